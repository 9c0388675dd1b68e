import java.util.Arrays;

/** A run of calls on a new object. It knows its last call, and makes no more than are promised. */
final class Run {
    static final int MOST_CALLS = 512;

    private final FamilyProbes probes = new FamilyProbes();
    private int calls;
    private String name = "new";
    private int[] arguments = {};

    /** A run with a thing in slot 0. */
    static Run with(int kind, int n) {
        Run run = new Run();
        run.make(0, kind, n);
        return run;
    }

    int make(int slot, int kind, int n) {
        called("make", slot, kind, n);
        return probes.make(slot, kind, n);
    }

    int drop(int slot) {
        called("drop", slot);
        return probes.drop(slot);
    }

    int probe(int slot, int type, int member, int x, int manner) {
        called("probe", slot, type, member, x, manner);
        return probes.probe(slot, type, member, x, manner);
    }

    int value() {
        called("value");
        return probes.value();
    }

    boolean is(int slot, int type) {
        called("is", slot, type);
        return probes.is(slot, type);
    }

    boolean same(int a, int b) {
        called("same", a, b);
        return probes.same(a, b);
    }

    int store(int row, int place, int slot) {
        called("store", row, place, slot);
        return probes.store(row, place, slot);
    }

    int load(int row, int place, int slot) {
        called("load", row, place, slot);
        return probes.load(row, place, slot);
    }

    int copy(int from, int at, int to, int there, int n) {
        called("copy", from, at, to, there, n);
        return probes.copy(from, at, to, there, n);
    }

    int compare(int a, int b) {
        called("compare", a, b);
        return probes.compare(a, b);
    }

    int flow(int program, int a, int b) {
        called("flow", program, a, b);
        return probes.flow(program, a, b);
    }

    int number(int which, int a, int b) {
        called("number", which, a, b);
        return probes.number(which, a, b);
    }

    int events() {
        called("events");
        return probes.events();
    }

    int event(int i) {
        called("event", i);
        return probes.event(i);
    }

    int callsLeft() {
        return MOST_CALLS - calls;
    }

    String lastCall() {
        String told = Arrays.toString(arguments);
        return "call " + calls + ", " + name + "(" + told.substring(1, told.length() - 1) + ")";
    }

    private void called(String call, int... with) {
        if (calls == MOST_CALLS) {
            throw new IllegalStateException("the test asks for what is not promised");
        }
        calls++;
        name = call;
        arguments = with;
    }
}
