/** Counts and prints the answers of a test that are not the ones that are due. */
final class Due {
    private int looked;
    private int wrong;

    void is(String call, long got, long want) {
        looked++;
        if (got != want) {
            wrong++;
            System.out.println(call + " answered " + got + ", due is " + want);
        }
    }

    void is(String call, boolean got, boolean want) {
        is(call, got ? 1 : 0, want ? 1 : 0);
    }

    /** A call that must go VALUE, and the value that it must leave. */
    void value(FamilyProbes probes, String call, int went, int want) {
        is(call, went, FamilyProbes.VALUE);
        is(call + ", then value()", probes.value(), want);
    }

    /** The last EVENTS, the oldest of them first. */
    void lastEvents(FamilyProbes probes, String after, int... want) {
        for (int i = 0; i < want.length; i++) {
            is(after + ", then event(" + i + ")", probes.event(i), want[want.length - 1 - i]);
        }
    }

    void end() {
        System.out.println(looked + " answers, " + wrong + " not as due");
        if (wrong != 0) {
            System.exit(1);
        }
    }
}
