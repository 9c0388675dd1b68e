/** Promises 4 (probe) and 5 (value): every member through every type of every kind. */
final class ProbeTest {
    private static final int REFUSED = FamilyProbes.REFUSED;
    private static final int VALUE = FamilyProbes.VALUE;
    private static final int CAST = FamilyProbes.CAST;
    private static final int NULL = FamilyProbes.NULL;
    private static final int BIG = Integer.MAX_VALUE;

    // By member, a place for each type; X: the type has the member.
    private static final String[] HAS = {
        "XXXXXXXXX", "XXXXXXXXX", ".XX.XXX.X", "...XXXX..", "...XXXX..", "...XXXX..",
        "...XXXX..", "XXX.....X", "...XXXX..", "...XXXX..", "...X...X.", "....X.X.."
    };
    // By kind, a place for each type; X: a thing of the kind is of the type.
    static final String[] IS = {
        "XX.XX....", "X.XX.X...", "XXXX.XX..", "X......X.", "XX......X", "XX......X",
        "X........", "X........", "X........", "X.XX.X..."
    };
    // By kind HOUND, CAT, KITTEN, STRAY with n = 5: the answers for x = 7 that no type changes.
    private static final int[] BASE_KINDS = {0, 1, 2, 9};
    private static final int[] BASE_MEMBERS = {0, 1, 2, 3, 4, 5, 9};
    private static final int[][] BASE_ANSWERS = {
        {12, 24, 17, 11, 111, 107, 24},
        {2, 1, -3, 15, 115, 107, 1},
        {4, 11, 51, 30, 130, 107, 35},
        {2, 1, -3, 21, 121, 107, 1}
    };

    public static void main(String[] args) {
        Due due = new Due();
        howItWent(due);
        baseKinds(due);
        otherKinds(due);
        membersByType(due);
        sizeAndOver(due);
        wraps(due);
        refuses(due);
        valueStays(due);
        due.end();
    }

    private static void howItWent(Due due) {
        for (int kind = -1; kind < 10; kind++) {
            FamilyProbes x = new FamilyProbes();
            x.make(1, 3, 0);
            if (kind >= 0) {
                x.make(0, kind, 1);
            }
            for (int at = 0; at < 9 * 12 * 4; at++) {
                int type = at % 9;
                int member = at / 9 % 12;
                int manner = at / (9 * 12);
                due.is("kind " + kind + ", type " + type + ", member " + member + ", manner "
                        + manner, x.probe(0, type, member, 3, manner), wentDue(kind, type, member));
            }
        }
    }

    private static int wentDue(int kind, int type, int member) {
        if (HAS[member].charAt(type) != 'X') {
            return REFUSED;
        }
        if (member == 7 || member == 8) {
            return VALUE;
        }
        if (kind < 0) {
            return NULL;
        }
        return IS[kind].charAt(type) == 'X' ? VALUE : CAST;
    }

    private static void baseKinds(Due due) {
        for (int k = 0; k < 4; k++) {
            for (int m = 0; m < BASE_MEMBERS.length; m++) {
                FamilyProbes x = new FamilyProbes();
                x.make(0, BASE_KINDS[k], 5);
                throughAllTypes(due, x, BASE_KINDS[k], BASE_MEMBERS[m], BASE_ANSWERS[k][m]);
            }
        }
    }

    private static void throughAllTypes(Due due, FamilyProbes x, int kind, int member, int want) {
        for (int type = 0; type < 9; type++) {
            if (wentDue(kind, type, member) == VALUE) {
                for (int manner = 0; manner < 4; manner++) {
                    due.value(x, "kind " + kind + ", type " + type + ", member " + member
                            + ", manner " + manner, x.probe(0, type, member, 7, manner), want);
                }
            }
        }
    }

    private static void otherKinds(Due due) {
        int[] kinds = {3, 4, 5, 7};
        int[] call = {7, 9, 63, 35};
        int[] twice = {7, 18, 126, 175};
        for (int k = 0; k < kinds.length; k++) {
            FamilyProbes x = new FamilyProbes();
            x.make(0, kinds[k], 5);
            throughAllTypes(due, x, kinds[k], 0, call[k]);
            throughAllTypes(due, x, kinds[k], 1, twice[k]);
            throughAllTypes(due, x, kinds[k], 2, 17);
        }
        for (int manner = 0; manner < 4; manner++) {
            FamilyProbes x = new FamilyProbes();
            x.make(0, 6, 5);
            due.is("CAST does not count", x.probe(0, 3, 0, 7, manner), CAST);
            due.is("REFUSED does not count", x.probe(0, 0, 3, 7, manner), REFUSED);
            due.value(x, "SHADOW's CALL", x.probe(0, 0, 0, 7, manner), 13);
            due.value(x, "SHADOW's TWICE", x.probe(0, 0, 1, 7, manner), 22);
            x.make(0, 6, 5);
            due.value(x, "another SHADOW's CALL", x.probe(0, 0, 0, 7, manner), 16);
        }
    }

    private static void membersByType(Due due) {
        FamilyProbes x = new FamilyProbes();
        x.make(0, 2, 5);
        x.make(1, 0, 5);
        x.make(2, 6, 5);
        for (int manner = 0; manner < 4; manner++) {
            due.value(x, "MARK of BASE", x.probe(0, 3, 6, 7, manner), 1);
            due.value(x, "MARK of CAT", x.probe(0, 5, 6, 7, manner), 3);
            due.value(x, "MARK of KITTEN", x.probe(0, 6, 6, 7, manner), 3);
            due.value(x, "MARK of a HOUND as BASE", x.probe(1, 3, 6, 7, manner), 1);
            due.value(x, "MARK of HOUND", x.probe(1, 4, 6, 7, manner), 2);
            // In a SHADOW's slot, a KITTEN's and an empty one: no thing is needed.
            for (int slot = 0; slot < 8; slot++) {
                due.value(x, "TONE of VOICE", x.probe(slot, 0, 7, 1, manner), 5);
                due.value(x, "TONE of LOUD", x.probe(slot, 1, 7, 1, manner), 7);
                due.value(x, "TONE of SOFT", x.probe(slot, 2, 7, 1, manner), 5);
                due.value(x, "TONE of BIRD", x.probe(slot, 8, 7, 1, manner), 7);
                due.value(x, "RANK of BASE", x.probe(slot, 3, 8, 10, manner), 11);
                due.value(x, "RANK of HOUND", x.probe(slot, 4, 8, 10, manner), 12);
                due.value(x, "RANK of CAT", x.probe(slot, 5, 8, 10, manner), 11);
                due.value(x, "RANK of KITTEN", x.probe(slot, 6, 8, 10, manner), 16);
            }
        }
    }

    private static void sizeAndOver(Due due) {
        FamilyProbes x = new FamilyProbes();
        for (int manner = 0; manner < 4; manner++) {
            for (int kind : BASE_KINDS) {
                x.make(0, kind, -6);
                due.value(x, "SIZE of kind " + kind, x.probe(0, 3, 10, 1, manner), -6);
            }
            x.make(0, 3, 44);
            due.value(x, "SIZE of an ECHO", x.probe(0, 7, 10, 1, manner), 44);
            x.make(0, 0, 5);
            due.value(x, "OVER of a HOUND", x.probe(0, 4, 11, 1, manner), 10);
            due.is("OVER of a HOUND as KITTEN", x.probe(0, 6, 11, 1, manner), CAST);
            x.make(0, 2, 5);
            due.value(x, "OVER of a KITTEN", x.probe(0, 6, 11, 1, manner), 15);
            x.make(0, 9, 5);
            due.is("OVER of a STRAY as KITTEN", x.probe(0, 6, 11, 1, manner), CAST);
            due.is("OVER of a STRAY as CAT", x.probe(0, 5, 11, 1, manner), REFUSED);
        }
    }

    private static void wraps(Due due) {
        FamilyProbes x = new FamilyProbes();
        x.make(0, 0, BIG);
        due.value(x, "HOUND's CALL", x.probe(0, 0, 0, BIG, 0), -2);
        due.value(x, "HOUND's TWICE", x.probe(0, 0, 1, BIG, 0), -4);
        due.value(x, "HOUND's WEIGHT", x.probe(0, 3, 3, 0, 0), -1);
        due.value(x, "HOUND's VOLUME", x.probe(0, 1, 2, BIG, 0), BIG + 10);
        due.value(x, "HOUND's OPEN", x.probe(0, 3, 5, BIG, 0), BIG + 100);
        due.value(x, "RANK", x.probe(0, 3, 8, BIG, 0), Integer.MIN_VALUE);
        x.make(0, 1, Integer.MIN_VALUE);
        due.value(x, "CAT's CALL", x.probe(0, 0, 0, -1, 0), BIG);
        due.value(x, "CAT's VOLUME", x.probe(0, 2, 2, Integer.MIN_VALUE, 0), BIG - 9);
        x.make(0, 9, BIG);
        due.value(x, "STRAY's WEIGHT", x.probe(0, 3, 3, 0, 0), -3);
        x.make(0, 7, 65536);
        due.value(x, "TIMES's TWICE", x.probe(0, 0, 1, 3, 0), 0);
    }

    private static void refuses(Due due) {
        FamilyProbes x = new FamilyProbes();
        for (int slot = 0; slot < 8; slot++) {
            x.make(slot, 2, 3);
        }
        int[] lows = {-1, Integer.MIN_VALUE};
        for (int low : lows) {
            due.is("slot " + low, x.probe(low, 3, 0, 1, 0), REFUSED);
            due.is("type " + low, x.probe(0, low, 0, 1, 0), REFUSED);
            due.is("member " + low, x.probe(0, 3, low, 1, 0), REFUSED);
            due.is("manner " + low, x.probe(0, 3, 0, 1, low), REFUSED);
            due.is("RANK, slot " + low, x.probe(low, 3, 8, 1, 0), REFUSED);
        }
        for (int more = 0; more < 40; more++) {
            due.is("slot 8 + " + more, x.probe(8 + more, 3, 0, 1, 0), REFUSED);
            due.is("type 9 + " + more, x.probe(0, 9 + more, 0, 1, 0), REFUSED);
            due.is("member 12 + " + more, x.probe(0, 6, 12 + more, 1, 0), REFUSED);
            due.is("manner 4 + " + more, x.probe(0, 3, 0, 1, 4 + more), REFUSED);
            due.is("TONE, slot 8 + " + more, x.probe(8 + more, 0, 7, 1, 0), REFUSED);
        }
        due.is("refused probes leave no value", x.value(), 0);
    }

    private static void valueStays(Due due) {
        FamilyProbes x = new FamilyProbes();
        x.make(0, 3, 5);
        x.make(1, 0, 5);
        due.is("value() before the first", x.value(), 0);
        due.value(x, "CALL", x.probe(0, 0, 0, 77, 0), 77);
        x.probe(0, 3, 0, 1, 0);
        x.probe(2, 0, 0, 1, 0);
        x.probe(0, 0, 3, 1, 0);
        x.compare(0, 1);
        x.compare(1, 2);
        x.compare(1, 8);
        x.flow(5, -1, 0);
        x.flow(5, 3, 3);
        x.flow(5, 1001, 0);
        x.flow(7, 1, 1);
        x.number(4, 1, 0);
        x.number(10, 1, 1);
        x.make(3, 0, 9);
        x.drop(3);
        x.store(0, 0, 0);
        x.load(0, 0, 3);
        x.copy(0, 0, 1, 0, 4);
        x.event(0);
        x.events();
        due.is("value() after calls that leave it", x.value(), 77);
        due.value(x, "compare", x.compare(1, 1), 0);
        due.value(x, "flow", x.flow(3, 1, 0), 2);
        due.value(x, "number", x.number(0, 3, 0), 3);
        due.value(x, "TONE", x.probe(7, 0, 7, 0, 3), 5);
    }
}
