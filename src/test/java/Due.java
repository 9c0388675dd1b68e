/** Counts the answers that a test looks at, and prints those that are not the ones due. */
final class Due {
    private String test = "";
    private int tests;
    private int lookedInTest = 1;
    private int looked;
    private int wrong;

    /** A test of its own begins here, of this sentence of the document. */
    void test(String sentence) {
        endTest();
        test = sentence;
        tests++;
        lookedInTest = 0;
    }

    void is(String what, long got, long want) {
        looked++;
        lookedInTest++;
        if (got != want) {
            wrong++;
            System.out.println("[" + test + "] " + what + " answered " + got + ", due is " + want);
        }
    }

    void is(String what, boolean got, boolean want) {
        is(what, got ? 1 : 0, want ? 1 : 0);
    }

    /** The answer of the run's last call. */
    void is(Run run, long got, long want) {
        is(run.lastCall(), got, want);
    }

    void is(Run run, boolean got, boolean want) {
        is(run.lastCall(), got, want);
    }

    /** The run's last call must have gone VALUE, and left this value. */
    void value(Run run, int went, int want) {
        String call = run.lastCall();
        is(call, went, FamilyProbes.VALUE);
        is(call + ", then value()", run.value(), want);
    }

    /** All the EVENTS that a run has noted, sixteen at the most, the oldest first. */
    void events(Run run, int... want) {
        String call = run.lastCall();
        is(call + ", then events()", run.events(), want.length);
        for (int i = 0; i < want.length; i++) {
            is(call + ", then event(" + i + ")", run.event(i), want[want.length - 1 - i]);
        }
    }

    void end() {
        endTest();
        System.out.println(tests + " tests, " + looked + " answers, " + wrong + " not as due");
        if (wrong != 0) {
            System.exit(1);
        }
    }

    private void endTest() {
        if (lookedInTest == 0) {
            wrong++;
            System.out.println("[" + test + "] looked at no answer");
        }
    }
}
