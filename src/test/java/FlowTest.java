/** Promise 12 (flow). */
final class FlowTest {
    private static final int REFUSED = FamilyProbes.REFUSED;
    private static final int INDEX = FamilyProbes.INDEX;
    private static final int SIZE = FamilyProbes.SIZE;
    private static final int LEAST = Integer.MIN_VALUE;
    private static final int GREATEST = Integer.MAX_VALUE;

    public static void main(String[] args) {
        Due due = new Due();
        divide(due);
        turns(due);
        closings(due);
        words(due);
        sum(due);
        newRow(due);
        toldPlace(due);
        refuses(due);
        due.end();
    }

    private static void divide(Due due) {
        int[][] cases = {
            {7, 2, 3}, {-7, 2, -3}, {7, -2, -3}, {-7, -2, 3}, {0, 5, 0}, {7, 0, -1}, {0, 0, -1},
            {LEAST, -1, LEAST}, {LEAST, 0, -1}, {GREATEST, -1, -GREATEST}, {1, GREATEST, 0}
        };
        FamilyProbes x = new FamilyProbes();
        for (int i = 0; i < cases.length; i++) {
            int a = cases[i][0];
            int b = cases[i][1];
            due.value(x, "flow(0, " + a + ", " + b + ")", x.flow(0, a, b), cases[i][2]);
            due.is("events()", x.events(), i + 1);
            due.is("event(0)", x.event(0), 1);
        }
    }

    private static void turns(Due due) {
        // Left turn, ending turn, turns counted, turns noted.
        int[][] cases = {
            {0, 0, 5, 5}, {2, 4, 2, 4}, {4, 2, 1, 2}, {1, 0, 4, 5}, {5, 0, 4, 5}, {0, 1, 0, 1},
            {0, 5, 4, 5}, {3, 3, 4, 5}, {1, 1, 4, 5}, {5, 5, 4, 5}, {6, 7, 5, 5}, {7, 3, 2, 3},
            {1, 2, 0, 2}, {2, 1, 0, 1}, {10, 12, 2, 4}, {-6, -4, 2, 4}, {LEAST, GREATEST, 5, 5}
        };
        for (int[] c : cases) {
            FamilyProbes x = new FamilyProbes();
            String call = "flow(1, " + c[0] + ", " + c[1] + ")";
            due.value(x, call, x.flow(1, c[0], c[1]), c[2]);
            due.is(call + ", then events()", x.events(), c[3]);
            for (int i = 0; i < c[3]; i++) {
                due.is(call + ", then event(" + i + ")", x.event(i), c[3] - i);
            }
        }
    }

    private static void closings(Due due) {
        int[][] values = {{0, 300, 400, 301}, {100, 100, 101, 101}, {200, 201, 201, 202}};
        for (int high = -8; high <= 8; high += 4) {
            for (int a = 0; a < 4; a++) {
                for (int b = 0; b < 4; b++) {
                    FamilyProbes x = new FamilyProbes();
                    String call = "flow(2, " + (a + high) + ", " + (b + high) + ")";
                    int want = values[(a & 1) != 0 ? 1 : a][b];
                    due.value(x, call, x.flow(2, a + high, b + high), want);
                    if ((a & 1) != 0) {
                        due.is(call + ", then events()", x.events(), 3);
                        due.lastEvents(x, call, 10, 11, 20);
                    } else {
                        due.is(call + ", then events()", x.events(), 5);
                        due.lastEvents(x, call, 10, 11, 12, 21, 20);
                    }
                }
            }
        }
    }

    private static void words(Due due) {
        FamilyProbes x = new FamilyProbes();
        due.value(x, "one", x.flow(3, 10, 0), 11);
        due.value(x, "two", x.flow(3, 10, 1), 13);
        due.value(x, "four", x.flow(3, 10, 2), 17);
        due.value(x, "six", x.flow(3, 10, 3), -10);
        due.value(x, "six of a number below 0", x.flow(3, -10, 7), 10);
        due.value(x, "six of the least", x.flow(3, LEAST, -1), LEAST);
        due.value(x, "b & 3", x.flow(3, 10, -2), 17);
        due.value(x, "b & 3 again", x.flow(3, 10, 100), 11);
        due.value(x, "one wraps", x.flow(3, GREATEST, 0), LEAST);
        due.value(x, "four wraps", x.flow(3, GREATEST, 2), LEAST + 6);
        due.is("no EVENT", x.events(), 0);
    }

    private static void sum(Due due) {
        int[][] cases = {
            {3, 5, 28}, {0, 0, 0}, {-1, 9, 8}, {5, -2, -9}, {GREATEST, 1, 0},
            {LEAST, 3, LEAST + (LEAST + 1) * 3 + 3}, {65535, 65536, 65535 + 65536}
        };
        FamilyProbes x = new FamilyProbes();
        for (int[] c : cases) {
            due.value(x, "flow(4, " + c[0] + ", " + c[1] + ")", x.flow(4, c[0], c[1]), c[2]);
        }
        due.is("no EVENT", x.events(), 0);
    }

    private static void newRow(Due due) {
        FamilyProbes x = new FamilyProbes();
        due.value(x, "flow(5, 1, 0)", x.flow(5, 1, 0), 0);
        due.value(x, "flow(5, 4, 3)", x.flow(5, 4, 3), 9);
        due.value(x, "flow(5, 1000, 999)", x.flow(5, 1000, 999), 998001);
        due.is("flow(5, 0, 0)", x.flow(5, 0, 0), INDEX);
        due.is("flow(5, 4, 4)", x.flow(5, 4, 4), INDEX);
        due.is("flow(5, 4, -1)", x.flow(5, 4, -1), INDEX);
        due.is("flow(5, 1000, 1000)", x.flow(5, 1000, 1000), INDEX);
        due.is("flow(5, 4, least)", x.flow(5, 4, LEAST), INDEX);
        due.is("flow(5, 4, greatest)", x.flow(5, 4, GREATEST), INDEX);
        due.is("flow(5, -1, 0)", x.flow(5, -1, 0), SIZE);
        due.is("flow(5, -1, 7)", x.flow(5, -1, 7), SIZE);
        due.is("flow(5, least, -1)", x.flow(5, LEAST, -1), SIZE);
        due.is("flow(5, 1001, 0)", x.flow(5, 1001, 0), REFUSED);
        due.is("flow(5, 1001, -1)", x.flow(5, 1001, -1), REFUSED);
        due.is("flow(5, greatest, 0)", x.flow(5, GREATEST, 0), REFUSED);
        due.is("the value stays", x.value(), 998001);
        due.is("no EVENT", x.events(), 0);
    }

    private static void toldPlace(Due due) {
        FamilyProbes x = new FamilyProbes();
        due.value(x, "flow(6, 0, 0)", x.flow(6, 0, 0), 250809);
        due.value(x, "flow(6, 1, 0)", x.flow(6, 1, 0), 72509);
        due.value(x, "flow(6, 2, 5)", x.flow(6, 2, 5), 250809);
        due.value(x, "flow(6, -1, 5)", x.flow(6, -1, 5), 72509);
        due.is("no EVENT", x.events(), 0);
    }

    private static void refuses(Due due) {
        FamilyProbes x = new FamilyProbes();
        int[] others = {-1, 7, 8, 256, LEAST, GREATEST};
        for (int program : others) {
            due.is("flow(" + program + ", 1, 1)", x.flow(program, 1, 1), REFUSED);
        }
        due.is("no EVENT", x.events(), 0);
        due.is("no value", x.value(), 0);
    }
}
