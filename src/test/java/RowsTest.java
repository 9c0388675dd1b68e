/** Promises 8 (store), 9 (load) and 10 (copy). */
final class RowsTest {
    private static final int REFUSED = FamilyProbes.REFUSED;
    private static final int VALUE = FamilyProbes.VALUE;
    private static final int NULL = FamilyProbes.NULL;
    private static final int STORE = FamilyProbes.STORE;
    private static final int INDEX = FamilyProbes.INDEX;

    public static void main(String[] args) {
        Due due = new Due();
        storePuts(due);
        storePutsNone(due);
        storeIndex(due);
        storeMisfit(due);
        storeRefuses(due);
        loadBrings(due);
        loadBringsNone(due);
        loadIndex(due);
        loadRefuses(due);
        copyOfEachStretch(due);
        copyOfHugeStretches(due);
        copyAcross(due);
        copyOfNoPlaces(due);
        copyStopsAtMisfit(due);
        copyStopsAtFirstMisfit(due);
        copyOfNoneFits(due);
        copyWithinRow(due);
        copyRefuses(due);
        due.end();
    }

    /** Row 0 holds HOUND, CAT, KITTEN, none; slots 0, 1, 2 the same things, slots 3 .. 7 none. */
    private static Run withRow() {
        Run x = new Run();
        for (int i = 0; i < 3; i++) {
            x.make(i, i, i);
            x.store(0, i, i);
        }
        return x;
    }

    /** What the places of a row hold must be what these slots hold. */
    private static void rowHolds(Due due, Run x, int row, int... slots) {
        for (int place = 0; place < 4; place++) {
            x.load(row, place, 7);
            due.is(x.lastCall() + " brings what slot " + slots[place] + " holds",
                    x.same(7, slots[place]), true);
        }
    }

    private static void storePuts(Due due) {
        due.test("8: Puts the thing of the slot into a place of a row 0 .. 3: VALUE");
        for (int at = 0; at < 16; at++) {
            Run x = Run.with(Kind.HOUND, 1);
            x.make(6, at / 4 == 2 ? Kind.STRAY : Kind.HOUND, 1);
            due.is(x, x.store(at / 4, at % 4, 6), VALUE);
            due.is(x, x.drop(6), VALUE);
            for (int other = 0; other < 16; other++) {
                x.load(other / 4, other % 4, 5);
                due.is(x, x.drop(5), other == at ? VALUE : NULL);
            }
        }
    }

    private static void storePutsNone(Due due) {
        due.test("8: (or none, if it is empty)");
        for (int row = 0; row < 4; row++) {
            Run x = Run.with(row == 3 ? Kind.HOUND : Kind.CAT, 1);
            x.store(row, 0, 0);
            x.store(row, 3, 0);
            due.is(x, x.store(row, 0, 4), VALUE);
            rowHolds(due, x, row, 4, 4, 4, 0);
            due.is(x, x.store(row, 3, 4), VALUE);
            rowHolds(due, x, row, 4, 4, 4, 4);
        }
    }

    private static void storeIndex(Due due) {
        due.test("8: INDEX if the place is not 0 .. 3; else STORE");
        Run x = Run.with(Kind.CAT, 1);
        for (int place : Edge.beside(4)) {
            due.is(x, x.store(2, place, 0), INDEX);
            due.is(x, x.store(3, place, 0), INDEX);
            due.is(x, x.store(3, place, 5), INDEX);
        }
        for (int row = 0; row < 4; row++) {
            rowHolds(due, x, row, 5, 5, 5, 5);
        }
        for (int place = 0; place < 4; place++) {
            due.is(x, x.store(3, place, 0), STORE);
            due.is(x, x.store(2, place, 0), VALUE);
        }
    }

    private static void storeMisfit(Due due) {
        due.test("8: else STORE if the thing is not of the row's type; else VALUE");
        int[][] fitting = {{}, Kind.BASES, {Kind.CAT, Kind.KITTEN, Kind.STRAY}, {Kind.HOUND}};
        for (int row = 1; row < 4; row++) {
            for (int kind = 0; kind < Kind.ALL; kind++) {
                Run x = Run.with(row == 3 ? Kind.HOUND : Kind.CAT, 1);
                x.store(row, 2, 0);
                x.make(1, kind, 0);
                boolean fits = contains(fitting[row], kind);
                due.is(x, x.store(row, 2, 1), fits ? VALUE : STORE);
                rowHolds(due, x, row, 4, 4, fits ? 1 : 0, 4);
                due.is(x, x.is(1, Type.VOICE), true);
            }
        }
        for (int kind = 0; kind < Kind.ALL; kind++) {
            Run x = Run.with(Kind.TIMES, 1);
            x.make(1, kind, 0);
            due.is(x, x.store(0, 2, 1), VALUE);
        }
    }

    private static boolean contains(int[] row, int number) {
        for (int each : row) {
            if (each == number) {
                return true;
            }
        }
        return false;
    }

    private static void storeRefuses(Due due) {
        due.test("8: REFUSED for numbers out of range.");
        Run x = Run.with(Kind.HOUND, 1);
        for (int row : Edge.beside(4)) {
            due.is(x, x.store(row, 0, 0), REFUSED);
            due.is(x, x.store(row, 0, 5), REFUSED);
            due.is(x, x.store(row, 4, 0), REFUSED);
        }
        for (int slot : Edge.beside(8)) {
            due.is(x, x.store(0, 0, slot), REFUSED);
            due.is(x, x.store(3, 3, slot), REFUSED);
            due.is(x, x.store(0, -1, slot), REFUSED);
        }
        for (int row = 0; row < 4; row++) {
            rowHolds(due, x, row, 5, 5, 5, 5);
        }
        due.is(x, x.store(0, 0, 0), VALUE);
        due.is(x, x.store(3, 3, 7), VALUE);
    }

    private static void loadBrings(Due due) {
        due.test("9: What is in the place of the row goes into the slot: VALUE");
        for (int row = 0; row < 4; row++) {
            Run x = new Run();
            for (int place = 0; place < 4; place++) {
                x.make(place, row == 3 ? Kind.HOUND : Kind.KITTEN, place);
                x.store(row, place, place);
            }
            for (int place = 0; place < 4; place++) {
                due.is(x, x.load(row, place, 4 + place), VALUE);
                due.is(x, x.same(4 + place, place), true);
            }
            rowHolds(due, x, row, 0, 1, 2, 3);
        }
    }

    private static void loadBringsNone(Due due) {
        due.test("9: What is in the place of the row goes into the slot (none, if it is empty)");
        for (int at = 0; at < 16; at++) {
            Run x = Run.with(Kind.OWL, 1);
            due.is(x, x.load(at / 4, at % 4, 0), VALUE);
            due.is(x, x.drop(0), NULL);
        }
    }

    private static void loadIndex(Due due) {
        due.test("9: VALUE; INDEX.");
        Run x = withRow();
        for (int place : Edge.beside(4)) {
            for (int row = 0; row < 4; row++) {
                due.is(x, x.load(row, place, 0), INDEX);
            }
        }
        due.is(x, x.is(0, Type.HOUND), true);
        due.is(x, x.load(0, 0, 1), VALUE);
        due.is(x, x.same(0, 1), true);
        due.is(x, x.load(0, 3, 1), VALUE);
        due.is(x, x.drop(1), NULL);
    }

    private static void loadRefuses(Due due) {
        due.test("9: REFUSED for numbers out of range.");
        Run x = withRow();
        for (int row : Edge.beside(4)) {
            due.is(x, x.load(row, 0, 0), REFUSED);
            due.is(x, x.load(row, 4, 0), REFUSED);
        }
        for (int slot : Edge.beside(8)) {
            due.is(x, x.load(0, 0, slot), REFUSED);
            due.is(x, x.load(0, 4, slot), REFUSED);
        }
        due.is(x, x.is(0, Type.HOUND), true);
        rowHolds(due, x, 0, 0, 1, 2, 3);
        due.is(x, x.load(3, 0, 0), VALUE);
        due.is(x, x.load(0, 0, 7), VALUE);
    }

    private static void copyOfEachStretch(Due due) {
        due.test("10: INDEX if at, there or n is below 0, or at + n or there + n above 4");
        for (int at = -2; at <= 6; at++) {
            for (int there = -2; there <= 6; there++) {
                for (int n = -2; n <= 6; n++) {
                    boolean fits = at >= 0 && there >= 0 && n >= 0 && at + n <= 4 && there + n <= 4;
                    Run x = withRow();
                    due.is(x, x.copy(0, at, 1, there, n), fits ? VALUE : INDEX);
                    for (int place = 0; place < 4; place++) {
                        boolean copied = fits && place >= there && place < there + n;
                        x.load(1, place, 7);
                        due.is(x, x.same(7, copied ? at + place - there : 3), true);
                    }
                }
            }
        }
    }

    private static void copyOfHugeStretches(Due due) {
        due.test("10: INDEX, and nothing is copied");
        int[] huge = {Edge.LEAST, Edge.LEAST + 1, Edge.GREATEST - 3, Edge.GREATEST};
        Run x = withRow();
        for (int far : huge) {
            for (int near = 0; near < 5; near += 4) {
                due.is(x, x.copy(0, far, 1, 0, near), INDEX);
                due.is(x, x.copy(0, 0, 1, far, near), INDEX);
                due.is(x, x.copy(0, near, 1, 0, far), INDEX);
                due.is(x, x.copy(0, 0, 1, near, far), INDEX);
                due.is(x, x.copy(0, far, 3, near, far), INDEX);
                due.is(x, x.copy(0, near, 0, far, far), INDEX);
            }
            due.is(x, x.copy(0, far, 1, far, far), INDEX);
        }
        due.is(x, x.copy(0, 0, 3, 0, 5), INDEX);
        rowHolds(due, x, 0, 0, 1, 2, 3);
        rowHolds(due, x, 1, 3, 3, 3, 3);
        rowHolds(due, x, 3, 3, 3, 3, 3);
    }

    private static void copyAcross(Due due) {
        due.test("10: Copies n places of a row from a place on to another row's");
        Run x = withRow();
        due.is(x, x.copy(0, 0, 1, 0, 4), VALUE);
        rowHolds(due, x, 1, 0, 1, 2, 3);
        rowHolds(due, x, 0, 0, 1, 2, 3);
        due.is(x, x.copy(1, 1, 2, 2, 2), VALUE);
        rowHolds(due, x, 2, 3, 3, 1, 2);
        due.is(x, x.copy(0, 0, 3, 3, 1), VALUE);
        rowHolds(due, x, 3, 3, 3, 3, 0);
        due.is(x, x.copy(3, 3, 0, 2, 1), VALUE);
        rowHolds(due, x, 0, 0, 1, 0, 3);
    }

    private static void copyOfNoPlaces(Due due) {
        due.test("10: Copies n places (none of them)");
        Run x = withRow();
        for (int at = 0; at <= 4; at++) {
            due.is(x, x.copy(0, at, 1, 4 - at, 0), VALUE);
            due.is(x, x.copy(0, at, 2, 4, 0), VALUE);
            due.is(x, x.copy(0, 0, 3, at, 0), VALUE);
        }
        due.is(x, x.copy(0, 5, 1, 0, 0), INDEX);
        due.is(x, x.copy(0, 0, 1, 5, 0), INDEX);
        for (int row = 1; row < 4; row++) {
            rowHolds(due, x, row, 3, 3, 3, 3);
        }
    }

    private static void copyStopsAtMisfit(Due due) {
        due.test("10: place by place until one does not fit: STORE (what was copied stays)");
        for (int misfit = 0; misfit <= 4; misfit++) {
            Run x = new Run();
            for (int place = 0; place < 4; place++) {
                x.make(place, place == misfit ? Kind.HOUND : Kind.CAT, place);
                x.store(0, place, place);
            }
            x.make(4, Kind.CAT, 9);
            for (int place = 0; place < 4; place++) {
                x.store(2, place, 4);
            }
            due.is(x, x.copy(0, 0, 2, 0, 4), misfit < 4 ? STORE : VALUE);
            for (int place = 0; place < 4; place++) {
                x.load(2, place, 7);
                due.is(x, x.same(7, place < misfit ? place : 4), true);
            }
            rowHolds(due, x, 0, 0, 1, 2, 3);
        }
    }

    private static void copyStopsAtFirstMisfit(Due due) {
        due.test("10: until one does not fit the other row (only those that are copied count)");
        Run x = withRow();
        due.is(x, x.copy(0, 0, 3, 0, 1), VALUE);
        due.is(x, x.copy(0, 0, 3, 2, 2), STORE);
        rowHolds(due, x, 3, 0, 3, 0, 3);
        due.is(x, x.copy(0, 1, 2, 0, 3), VALUE);
        rowHolds(due, x, 2, 1, 2, 3, 3);
        due.is(x, x.copy(0, 0, 2, 3, 1), STORE);
        rowHolds(due, x, 2, 1, 2, 3, 3);
        due.is(x, x.copy(2, 0, 3, 0, 1), STORE);
        rowHolds(due, x, 3, 0, 3, 0, 3);
    }

    private static void copyOfNoneFits(Due due) {
        due.test("10: one does not fit the other row (an empty place fits every row)");
        for (int row = 0; row < 4; row++) {
            Run x = Run.with(row == 3 ? Kind.HOUND : Kind.CAT, 1);
            for (int place = 0; place < 4; place++) {
                x.store(row, place, 0);
            }
            due.is(x, x.copy((row + 1) % 4, 0, row, 1, 2), VALUE);
            rowHolds(due, x, row, 0, 6, 6, 0);
        }
    }

    private static void copyWithinRow(Due due) {
        due.test("10: (Within one row as if by way of a third one.)");
        for (int at = 0; at < 4; at++) {
            for (int there = 0; there < 4; there++) {
                for (int n = 0; n + Math.max(at, there) <= 4; n++) {
                    Run x = withRow();
                    due.is(x, x.copy(0, at, 0, there, n), VALUE);
                    for (int place = 0; place < 4; place++) {
                        boolean copied = place >= there && place < there + n;
                        x.load(0, place, 7);
                        due.is(x, x.same(7, copied ? at + place - there : place), true);
                    }
                }
            }
        }
    }

    private static void copyRefuses(Due due) {
        due.test("10: REFUSED for rows out of range.");
        Run x = withRow();
        for (int row : Edge.beside(4)) {
            due.is(x, x.copy(row, 0, 0, 0, 1), REFUSED);
            due.is(x, x.copy(0, 0, row, 0, 1), REFUSED);
            due.is(x, x.copy(row, 0, row, 0, 0), REFUSED);
            due.is(x, x.copy(0, 0, row, 0, 9), REFUSED);
            due.is(x, x.copy(row, -1, 0, 0, 1), REFUSED);
        }
        rowHolds(due, x, 0, 0, 1, 2, 3);
        due.is(x, x.copy(3, 0, 0, 0, 1), VALUE);
        due.is(x, x.copy(0, 0, 3, 0, 1), VALUE);
    }
}
