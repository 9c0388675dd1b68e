/** Promises 8 (store), 9 (load) and 10 (copy). */
final class RowsTest {
    private static final int REFUSED = FamilyProbes.REFUSED;
    private static final int VALUE = FamilyProbes.VALUE;
    private static final int NULL = FamilyProbes.NULL;
    private static final int STORE = FamilyProbes.STORE;
    private static final int INDEX = FamilyProbes.INDEX;
    private static final int LEAST = Integer.MIN_VALUE;
    private static final int GREATEST = Integer.MAX_VALUE;
    private static final int[] NO_PLACES = {-1, 4, 5, 16, LEAST, GREATEST};
    private static final int[] NO_ROWS = {-1, 4, 5, 32, LEAST, GREATEST};
    private static final int[] NO_SLOTS = {-1, 8, 9, LEAST, GREATEST};

    // By row, a place for each kind; X: a thing of the kind fits.
    private static final String[] FITS = {"XXXXXXXXXX", "XXX......X", ".XX......X", "X........."};

    public static void main(String[] args) {
        Due due = new Due();
        storeFits(due);
        storeReplaces(due);
        storeInWrongCases(due);
        load(due);
        loadInWrongCases(due);
        copyAcross(due);
        copyStopsAtMisfit(due);
        copyWithinRow(due);
        copyInWrongCases(due);
        due.end();
    }

    private static void storeFits(Due due) {
        for (int row = 0; row < 4; row++) {
            for (int kind = 0; kind < 10; kind++) {
                for (int place = 0; place < 4; place++) {
                    FamilyProbes x = new FamilyProbes();
                    x.make(7, 1, 1);
                    x.make(6, kind, 7);
                    boolean fits = FITS[row].charAt(kind) == 'X';
                    due.is("store(" + row + ", " + place + ", 6) of kind " + kind,
                            x.store(row, place, 6), fits ? VALUE : STORE);
                    x.load(row, place, 0);
                    due.is("and what is there", x.same(0, 6), fits);
                    due.is("or none", x.same(0, 1), !fits);
                }
            }
        }
    }

    private static void storeReplaces(Due due) {
        FamilyProbes x = new FamilyProbes();
        x.make(0, 0, 1);
        x.make(1, 1, 1);
        x.store(3, 2, 0);
        due.is("a CAT among HOUNDS", x.store(3, 2, 1), STORE);
        x.load(3, 2, 5);
        due.is("the HOUND stays", x.same(5, 0), true);
        due.is("none among HOUNDS", x.store(3, 2, 7), VALUE);
        x.load(3, 2, 5);
        due.is("the HOUND is gone", x.same(5, 7), true);
        x.store(0, 2, 0);
        due.is("another one", x.store(0, 2, 1), VALUE);
        x.load(0, 2, 5);
        due.is("is there now", x.same(5, 1), true);
        due.is("the slot keeps it", x.is(1, 5), true);
    }

    private static void storeInWrongCases(Due due) {
        FamilyProbes x = new FamilyProbes();
        x.make(0, 1, 1);
        for (int place : NO_PLACES) {
            due.is("store(2, " + place + ", 0)", x.store(2, place, 0), INDEX);
            due.is("INDEX before STORE", x.store(3, place, 0), INDEX);
            due.is("INDEX for none", x.store(3, place, 5), INDEX);
        }
        for (int row : NO_ROWS) {
            due.is("store(" + row + ", 0, 0)", x.store(row, 0, 0), REFUSED);
            due.is("store(" + row + ", 4, 0)", x.store(row, 4, 0), REFUSED);
        }
        for (int slot : NO_SLOTS) {
            due.is("store(0, 0, " + slot + ")", x.store(0, 0, slot), REFUSED);
            due.is("store(0, -1, " + slot + ")", x.store(0, -1, slot), REFUSED);
        }
        for (int at = 0; at < 16; at++) {
            x.load(at / 4, at % 4, 3);
            due.is("nothing was put", x.drop(3), NULL);
        }
    }

    private static void load(Due due) {
        FamilyProbes x = new FamilyProbes();
        for (int place = 0; place < 4; place++) {
            x.make(place, 2, place);
            x.store(2, place, place);
        }
        for (int place = 0; place < 4; place++) {
            due.is("load(2, " + place + ", 7)", x.load(2, place, 7), VALUE);
            due.is("what comes", x.same(7, place), true);
            due.is("again", x.load(2, place, 6), VALUE);
            due.is("it stays in the row", x.same(6, place), true);
        }
        due.is("from an empty place", x.load(1, 0, 7), VALUE);
        due.is("the slot is empty then", x.drop(7), NULL);
    }

    private static void loadInWrongCases(Due due) {
        FamilyProbes x = new FamilyProbes();
        x.make(0, 0, 1);
        for (int place : NO_PLACES) {
            due.is("load(0, " + place + ", 0)", x.load(0, place, 0), INDEX);
        }
        for (int row : NO_ROWS) {
            due.is("load(" + row + ", 0, 0)", x.load(row, 0, 0), REFUSED);
            due.is("load(" + row + ", 4, 0)", x.load(row, 4, 0), REFUSED);
        }
        for (int slot : NO_SLOTS) {
            due.is("load(0, 0, " + slot + ")", x.load(0, 0, slot), REFUSED);
            due.is("load(0, 4, " + slot + ")", x.load(0, 4, slot), REFUSED);
        }
        due.is("the slot keeps its thing", x.is(0, 4), true);
    }

    /** Row 0: HOUND, CAT, KITTEN, none; they are in slots 0, 1, 2 too, and slot 3 is empty. */
    private static FamilyProbes withRow() {
        FamilyProbes x = new FamilyProbes();
        for (int i = 0; i < 3; i++) {
            x.make(i, i, i);
            x.store(0, i, i);
        }
        return x;
    }

    private static void rowHolds(Due due, FamilyProbes x, String after, int row, int... slots) {
        for (int place = 0; place < 4; place++) {
            x.load(row, place, 7);
            due.is(after + ": place " + place, x.same(7, slots[place]), true);
        }
    }

    private static void copyAcross(Due due) {
        FamilyProbes x = withRow();
        due.is("copy(0, 0, 1, 0, 4)", x.copy(0, 0, 1, 0, 4), VALUE);
        rowHolds(due, x, "the whole row", 1, 0, 1, 2, 3);
        rowHolds(due, x, "the row that it came from", 0, 0, 1, 2, 3);
        due.is("copy(1, 1, 2, 2, 2)", x.copy(1, 1, 2, 2, 2), VALUE);
        rowHolds(due, x, "a part of it", 2, 3, 3, 1, 2);
        due.is("copy(2, 0, 1, 0, 2)", x.copy(2, 0, 1, 0, 2), VALUE);
        rowHolds(due, x, "none is copied too", 1, 3, 3, 2, 3);
        due.is("copy(0, 0, 3, 3, 1)", x.copy(0, 0, 3, 3, 1), VALUE);
        rowHolds(due, x, "one HOUND", 3, 3, 3, 3, 0);
        due.is("copy(0, 0, 1, 0, 0)", x.copy(0, 0, 1, 0, 0), VALUE);
        rowHolds(due, x, "no place", 1, 3, 3, 2, 3);
        due.is("copy(0, 4, 1, 4, 0)", x.copy(0, 4, 1, 4, 0), VALUE);
    }

    private static void copyStopsAtMisfit(Due due) {
        FamilyProbes x = withRow();
        due.is("copy(0, 0, 3, 0, 4)", x.copy(0, 0, 3, 0, 4), STORE);
        rowHolds(due, x, "a HOUND fitted", 3, 0, 3, 3, 3);
        due.is("copy(0, 1, 2, 0, 2)", x.copy(0, 1, 2, 0, 2), VALUE);
        due.is("copy(0, 0, 2, 0, 4)", x.copy(0, 0, 2, 0, 4), STORE);
        rowHolds(due, x, "nothing fitted", 2, 1, 2, 3, 3);
        x.store(0, 0, 2);
        x.store(0, 1, 0);
        due.is("copy(0, 0, 2, 0, 3)", x.copy(0, 0, 2, 0, 3), STORE);
        rowHolds(due, x, "one fitted, none after it", 2, 2, 2, 3, 3);
    }

    private static void copyWithinRow(Due due) {
        FamilyProbes x = withRow();
        due.is("copy(0, 0, 0, 1, 3)", x.copy(0, 0, 0, 1, 3), VALUE);
        rowHolds(due, x, "up by one", 0, 0, 0, 1, 2);
        x = withRow();
        due.is("copy(0, 1, 0, 0, 3)", x.copy(0, 1, 0, 0, 3), VALUE);
        rowHolds(due, x, "down by one", 0, 1, 2, 3, 3);
        x = withRow();
        due.is("copy(0, 0, 0, 0, 4)", x.copy(0, 0, 0, 0, 4), VALUE);
        rowHolds(due, x, "onto itself", 0, 0, 1, 2, 3);
    }

    private static void copyInWrongCases(Due due) {
        FamilyProbes x = withRow();
        int[][] stretches = {
            {-1, 0, 1}, {0, -1, 1}, {0, 0, -1}, {0, 0, 5}, {1, 0, 4}, {0, 1, 4}, {4, 0, 1},
            {0, 4, 1}, {5, 0, 0}, {0, 5, 0}, {3, 0, 2}, {0, 3, 2}, {GREATEST, 0, 1},
            {0, GREATEST, 1}, {1, 0, GREATEST}, {GREATEST, GREATEST, GREATEST}, {LEAST, 0, 1},
            {0, LEAST, 1}, {0, 0, LEAST}, {LEAST, LEAST, LEAST}, {5, 0, -1}, {GREATEST, 0, 0}
        };
        for (int[] s : stretches) {
            String told = ", at " + s[0] + ", there " + s[1] + ", n " + s[2];
            due.is("to BASES" + told, x.copy(0, s[0], 1, s[1], s[2]), INDEX);
            due.is("INDEX before STORE" + told, x.copy(0, s[0], 3, s[1], s[2]), INDEX);
            due.is("within" + told, x.copy(0, s[0], 0, s[1], s[2]), INDEX);
        }
        for (int row : NO_ROWS) {
            due.is("from row " + row, x.copy(row, 0, 0, 0, 1), REFUSED);
            due.is("to row " + row, x.copy(0, 0, row, 0, 1), REFUSED);
            due.is("REFUSED before INDEX, row " + row, x.copy(0, 0, row, 0, 9), REFUSED);
        }
        rowHolds(due, x, "nothing was copied", 0, 0, 1, 2, 3);
        rowHolds(due, x, "nothing was copied", 1, 3, 3, 3, 3);
        rowHolds(due, x, "nothing was copied", 3, 3, 3, 3, 3);
    }
}
