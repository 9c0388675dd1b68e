/** The terms, but for the members: wrapping, making, probing, rows, and how long a run is. */
final class TermsTest {
    private static final int VALUE = FamilyProbes.VALUE;
    private static final int CAST = FamilyProbes.CAST;
    private static final int NULL = FamilyProbes.NULL;
    private static final int STORE = FamilyProbes.STORE;
    private static final int INDEX = FamilyProbes.INDEX;

    // Kind, n, type, member, x, value: each pair stands on both sides of a wrap.
    private static final int[][] WRAPS = {
        {Kind.HOUND, 1, Type.VOICE, Member.CALL, Edge.GREATEST - 1, Edge.GREATEST},
        {Kind.HOUND, 1, Type.VOICE, Member.CALL, Edge.GREATEST, Edge.LEAST},
        {Kind.HOUND, -1, Type.VOICE, Member.CALL, Edge.LEAST + 1, Edge.LEAST},
        {Kind.HOUND, -1, Type.VOICE, Member.CALL, Edge.LEAST, Edge.GREATEST},
        {Kind.CAT, 1, Type.VOICE, Member.CALL, Edge.LEAST + 1, Edge.LEAST},
        {Kind.CAT, 1, Type.VOICE, Member.CALL, Edge.LEAST, Edge.GREATEST},
        {Kind.CAT, Edge.LEAST, Type.VOICE, Member.CALL, -1, Edge.GREATEST},
        {Kind.CAT, Edge.LEAST, Type.VOICE, Member.CALL, 0, Edge.LEAST},
        {Kind.KITTEN, 0, Type.VOICE, Member.CALL, (1 << 30) - 1, Edge.GREATEST - 1},
        {Kind.KITTEN, 0, Type.VOICE, Member.CALL, 1 << 30, Edge.LEAST},
        {Kind.ECHO, 0, Type.VOICE, Member.CALL, Edge.GREATEST, Edge.GREATEST},
        {Kind.ECHO, 0, Type.VOICE, Member.CALL, Edge.LEAST, Edge.LEAST},
        {Kind.WREN, 0, Type.VOICE, Member.CALL, Edge.GREATEST - 2, Edge.GREATEST},
        {Kind.WREN, 0, Type.VOICE, Member.CALL, Edge.GREATEST - 1, Edge.LEAST},
        {Kind.OWL, 0, Type.VOICE, Member.CALL, 238609294, 2147483646},
        {Kind.OWL, 0, Type.VOICE, Member.CALL, 238609295, -2147483641},
        {Kind.SHADOW, 0, Type.VOICE, Member.CALL, Edge.GREATEST - 1, Edge.GREATEST},
        {Kind.SHADOW, 0, Type.VOICE, Member.CALL, Edge.GREATEST, Edge.LEAST},
        {Kind.TIMES, 65535, Type.VOICE, Member.CALL, 32768, 2147450880},
        {Kind.TIMES, 65536, Type.VOICE, Member.CALL, 32768, Edge.LEAST},
        {Kind.TIMES, -1, Type.VOICE, Member.CALL, Edge.LEAST + 1, Edge.GREATEST},
        {Kind.TIMES, -1, Type.VOICE, Member.CALL, Edge.LEAST, Edge.LEAST},
        {Kind.TIMES, 46340, Type.VOICE, Member.TWICE, 1, 2147395600},
        {Kind.TIMES, 46341, Type.VOICE, Member.TWICE, 1, -2147479015},
        {Kind.HOUND, 0, Type.LOUD, Member.TWICE, (1 << 30) - 1, Edge.GREATEST - 1},
        {Kind.HOUND, 0, Type.LOUD, Member.TWICE, 1 << 30, Edge.LEAST},
        {Kind.CAT, 0, Type.SOFT, Member.TWICE, Edge.LEAST + 1, Edge.LEAST},
        {Kind.CAT, 0, Type.SOFT, Member.TWICE, Edge.LEAST, Edge.GREATEST},
        {Kind.KITTEN, 0, Type.KITTEN, Member.TWICE, 357913941, 2147483645},
        {Kind.KITTEN, 0, Type.KITTEN, Member.TWICE, 357913942, -2147483645},
        {Kind.HOUND, 0, Type.LOUD, Member.VOLUME, Edge.GREATEST - 10, Edge.GREATEST},
        {Kind.HOUND, 0, Type.LOUD, Member.VOLUME, Edge.GREATEST - 9, Edge.LEAST},
        {Kind.CAT, 0, Type.SOFT, Member.VOLUME, Edge.LEAST + 10, Edge.LEAST},
        {Kind.CAT, 0, Type.SOFT, Member.VOLUME, Edge.LEAST + 9, Edge.GREATEST},
        {Kind.KITTEN, 0, Type.LOUD, Member.VOLUME, 715827872, 2147483646},
        {Kind.KITTEN, 0, Type.LOUD, Member.VOLUME, 715827873, -2147483647},
        {Kind.HOUND, (1 << 30) - 1, Type.BASE, Member.WEIGHT, 0, Edge.GREATEST},
        {Kind.HOUND, 1 << 30, Type.BASE, Member.WEIGHT, 0, Edge.LEAST + 1},
        {Kind.CAT, 715827882, Type.BASE, Member.WEIGHT, 0, 2147483646},
        {Kind.CAT, 715827883, Type.BASE, Member.WEIGHT, 0, -2147483647},
        {Kind.KITTEN, 357913941, Type.BASE, Member.WEIGHT, 0, 2147483646},
        {Kind.KITTEN, 357913942, Type.BASE, Member.WEIGHT, 0, -2147483644},
        {Kind.STRAY, 536870911, Type.BASE, Member.WEIGHT, 0, 2147483645},
        {Kind.STRAY, 536870912, Type.BASE, Member.WEIGHT, 0, -2147483647},
        {Kind.HOUND, 1073741773, Type.BASE, Member.DESCRIBE, 0, Edge.GREATEST},
        {Kind.HOUND, 1073741774, Type.BASE, Member.DESCRIBE, 0, Edge.LEAST + 1},
        {Kind.CAT, 0, Type.BASE, Member.OPEN, Edge.GREATEST - 100, Edge.GREATEST},
        {Kind.CAT, 0, Type.BASE, Member.OPEN, Edge.GREATEST - 99, Edge.LEAST},
        {Kind.CAT, 0, Type.BASE, Member.RANK, Edge.GREATEST - 1, Edge.GREATEST},
        {Kind.CAT, 0, Type.BASE, Member.RANK, Edge.GREATEST, Edge.LEAST},
        {Kind.CAT, 0, Type.HOUND, Member.RANK, Edge.GREATEST - 2, Edge.GREATEST},
        {Kind.CAT, 0, Type.HOUND, Member.RANK, Edge.GREATEST - 1, Edge.LEAST},
        {Kind.CAT, 0, Type.KITTEN, Member.RANK, Edge.GREATEST - 6, Edge.GREATEST},
        {Kind.CAT, 0, Type.KITTEN, Member.RANK, Edge.GREATEST - 5, Edge.LEAST},
        {Kind.KITTEN, Edge.GREATEST - 30, Type.BASE, Member.SEED, 0, Edge.GREATEST},
        {Kind.KITTEN, Edge.GREATEST - 29, Type.BASE, Member.SEED, 0, Edge.LEAST},
        {Kind.ECHO, Edge.GREATEST, Type.ECHO, Member.SIZE, 0, Edge.GREATEST},
        {Kind.CAT, Edge.LEAST, Type.BASE, Member.SIZE, 0, Edge.LEAST},
        {Kind.HOUND, (1 << 30) - 1, Type.HOUND, Member.OVER, 0, Edge.GREATEST - 1},
        {Kind.HOUND, 1 << 30, Type.HOUND, Member.OVER, 0, Edge.LEAST},
        {Kind.KITTEN, 715827882, Type.KITTEN, Member.OVER, 0, 2147483646},
        {Kind.KITTEN, 715827883, Type.KITTEN, Member.OVER, 0, -2147483647}
    };

    public static void main(String[] args) {
        Due due = new Due();
        membersWrap(due);
        eventsWrap(due);
        repeaterWraps(due);
        voicesAndNothingElse(due);
        straysAreCats(due);
        birdsAreOneThingEach(due);
        seedComesBeforeBonus(due);
        extraIsNotedAfterSeed(due);
        onlyBaseThingsNote(due);
        nullIfEmpty(due);
        castIfOfOtherType(due);
        mannerMakesNoDifference(due);
        rowsHaveFourPlaces(due);
        rowsAreEmptyAtFirst(due);
        placesHoldTheRowsType(due);
        placesHoldNone(due);
        theLastPromisedCall(due);
        due.end();
    }

    private static void membersWrap(Due due) {
        due.test("Terms: All ints wrap. (the members)");
        for (int[] w : WRAPS) {
            for (int manner = 0; manner < 4; manner++) {
                Run x = Run.with(w[0], w[1]);
                due.value(x, x.probe(0, w[2], w[3], w[4], manner), w[5]);
            }
        }
    }

    private static void eventsWrap(Due due) {
        due.test("Terms: All ints wrap. (what is noted when a thing is made)");
        due.events(Run.with(Kind.KITTEN, Edge.GREATEST - 30), Edge.GREATEST);
        due.events(Run.with(Kind.KITTEN, Edge.GREATEST - 29), Edge.LEAST);
        due.events(Run.with(Kind.STRAY, Edge.GREATEST - 1), 1, Edge.GREATEST);
        due.events(Run.with(Kind.STRAY, Edge.GREATEST), 1, Edge.LEAST);
    }

    private static void repeaterWraps(Due due) {
        due.test("Terms: All ints wrap. (by way of a REPEATER)");
        Run x = Run.with(Kind.HOUND, 1);
        x.make(1, Kind.REPEATER, 0);
        due.value(x, x.probe(1, Type.VOICE, Member.TWICE, Edge.GREATEST - 2, 0), Edge.GREATEST);
        due.value(x, x.probe(1, Type.VOICE, Member.TWICE, Edge.GREATEST - 1, 0), Edge.LEAST);
    }

    private static void voicesAndNothingElse(Due due) {
        due.test("Terms: SHADOW, TIMES and REPEATER are a VOICE and nothing else");
        int[] kinds = {Kind.SHADOW, Kind.TIMES, Kind.REPEATER};
        for (int kind : kinds) {
            Run x = Run.with(Kind.KITTEN, 1);
            x.make(1, kind, 0);
            for (int type = 0; type < Type.ALL; type++) {
                due.is(x, x.is(1, type), type == Type.VOICE);
            }
        }
    }

    private static void straysAreCats(Due due) {
        due.test("Terms: a STRAY is a CAT");
        Run x = Run.with(Kind.STRAY, 1);
        due.is(x, x.is(0, Type.CAT), true);
        due.is(x, x.is(0, Type.BASE), true);
        due.is(x, x.is(0, Type.SOFT), true);
        due.is(x, x.is(0, Type.KITTEN), false);
        due.is(x, x.is(0, Type.LOUD), false);
    }

    private static void birdsAreOneThingEach(Due due) {
        due.test("Terms: the BIRDS wren (its n is 2) and owl (9), one thing each");
        Run x = Run.with(Kind.WREN, 7);
        x.make(1, Kind.WREN, 8);
        x.make(2, Kind.OWL, 7);
        x.make(3, Kind.OWL, 8);
        due.is(x, x.same(0, 1), true);
        due.is(x, x.same(2, 3), true);
        due.is(x, x.same(1, 2), false);
        x.drop(0);
        x.drop(1);
        x.store(0, 0, 2);
        x.make(0, Kind.WREN, 0);
        x.make(1, Kind.WREN, 0);
        due.is(x, x.same(0, 1), true);
        x.load(0, 0, 7);
        due.is(x, x.same(7, 3), true);
    }

    private static void seedComesBeforeBonus(Due due) {
        due.test("Terms: only then the BONUS of a HOUND becomes 4 (0 before)");
        Run x = Run.with(Kind.HOUND, 5);
        due.events(x, 20);
        due.value(x, x.probe(0, Type.HOUND, Member.SEED, 0, 0), 24);
        x.make(0, Kind.HOUND, 5);
        due.events(x, 20, 20);
    }

    private static void extraIsNotedAfterSeed(Due due) {
        due.test("Terms: and the EXTRA of a STRAY is set, and an EVENT noted, the EXTRA");
        due.events(Run.with(Kind.STRAY, 5), 1, 6);
        due.events(Run.with(Kind.STRAY, -1), 1, 0);
        due.events(Run.with(Kind.STRAY, -2), 1, -1);
    }

    private static void onlyBaseThingsNote(Due due) {
        due.test("Terms: To MAKE a BASE thing: an EVENT is noted, SEED as its kind has it");
        due.events(Run.with(Kind.CAT, 5), 1);
        due.events(Run.with(Kind.KITTEN, 5), 35);
        for (int kind : Kind.OTHERS) {
            Run x = Run.with(Kind.HOUND, 5);
            x.make(1, kind, 0);
            due.events(x, 20);
        }
    }

    private static void nullIfEmpty(Due due) {
        due.test("Terms: NULL, if the slot is empty and a thing is needed");
        for (int member = 0; member < Member.ALL; member++) {
            int want = Member.needsThing(member) ? NULL : VALUE;
            for (int type = 0; type < Type.ALL; type++) {
                if (Member.isIn(type, member)) {
                    Run x = new Run();
                    due.is(x, x.probe(0, type, member, 1, 0), want);
                    x.make(0, Kind.KITTEN, 1);
                    x.drop(0);
                    due.is(x, x.probe(0, type, member, 1, 1), want);
                }
            }
        }
    }

    private static void castIfOfOtherType(Due due) {
        due.test("Terms: CAST, if the thing is not of the type and a thing is needed");
        for (int kind = 0; kind < Kind.ALL; kind++) {
            Run x = Run.with(Kind.HOUND, 5);
            x.make(1, kind, 0);
            for (int at = 0; at < Type.ALL * Member.ALL; at++) {
                int type = at % Type.ALL;
                int member = at / Type.ALL;
                if (Member.isIn(type, member)) {
                    boolean fits = Type.has(type, kind) || !Member.needsThing(member);
                    due.is(x, x.probe(1, type, member, 1, at % 4), fits ? VALUE : CAST);
                }
            }
        }
    }

    private static void mannerMakesNoDifference(Due due) {
        due.test("Terms: The MANNER makes no difference.");
        for (int kind = -1; kind < Kind.ALL; kind++) {
            for (int at = 0; at < Type.ALL * Member.ALL; at++) {
                int[] plain = probed(kind, at, 0);
                for (int manner = 1; manner < 4; manner++) {
                    int[] other = probed(kind, at, manner);
                    String what = "kind " + kind + ", type " + at % Type.ALL + ", member "
                            + at / Type.ALL + ", manner " + manner;
                    due.is(what, other[0], plain[0]);
                    due.is(what + ", its value", other[1], plain[1]);
                    due.is(what + ", its EVENTS", other[2], plain[2]);
                }
            }
        }
    }

    /** How a probe of a thing went (of none, if the kind is below 0), its value and the EVENTS. */
    private static int[] probed(int kind, int at, int manner) {
        Run x = Run.with(Kind.SHADOW, 5);
        if (kind >= 0) {
            x.make(1, kind, 8);
        }
        int went = x.probe(1, at % Type.ALL, at / Type.ALL, 7, manner);
        return new int[] {went, x.value(), x.events()};
    }

    private static void rowsHaveFourPlaces(Due due) {
        due.test("Terms: ROWS 0 .. 3 of four places each");
        for (int row = 0; row < 4; row++) {
            Run x = new Run();
            due.is(x, x.store(row, -1, 0), INDEX);
            for (int place = 0; place < 4; place++) {
                x.make(place, row == 3 ? Kind.HOUND : Kind.CAT, place);
                due.is(x, x.store(row, place, place), VALUE);
            }
            due.is(x, x.store(row, 4, 0), INDEX);
            for (int place = 0; place < 4; place++) {
                x.load(row, place, 7);
                due.is(x, x.same(7, place), true);
            }
        }
    }

    private static void rowsAreEmptyAtFirst(Due due) {
        due.test("Terms: empty at first");
        for (int at = 0; at < 16; at++) {
            Run x = Run.with(Kind.HOUND, 1);
            due.is(x, x.load(at / 4, at % 4, 0), VALUE);
            due.is(x, x.drop(0), NULL);
        }
    }

    private static void placesHoldTheRowsType(Due due) {
        due.test("Terms: A place may hold a thing of the row's type");
        int[] typeOfRow = {Type.VOICE, Type.BASE, Type.CAT, Type.HOUND};
        for (int row = 0; row < 4; row++) {
            for (int kind = 0; kind < Kind.ALL; kind++) {
                Run x = Run.with(Kind.HOUND, 1);
                x.make(1, kind, 0);
                boolean fits = Type.has(typeOfRow[row], kind);
                due.is(x, x.store(row, 2, 1), fits ? VALUE : STORE);
                x.load(row, 2, 2);
                due.is(x, x.same(2, 1), fits);
            }
        }
    }

    private static void placesHoldNone(Due due) {
        due.test("Terms: or none");
        for (int row = 0; row < 4; row++) {
            Run x = Run.with(row == 3 ? Kind.HOUND : Kind.CAT, 1);
            x.store(row, 1, 0);
            due.is(x, x.store(row, 1, 7), VALUE);
            x.load(row, 1, 0);
            due.is(x, x.drop(0), NULL);
        }
    }

    private static void theLastPromisedCall(Due due) {
        due.test("An object is used for at most 512 calls after it has been made");
        Run x = new Run();
        while (x.callsLeft() > 1) {
            x.flow(1, 0, 0);
        }
        due.is(x, x.events(), 511 * 5);
        x = Run.with(Kind.SHADOW, 0);
        while (x.callsLeft() > 2) {
            x.probe(0, Type.VOICE, Member.TWICE, 0, 0);
        }
        due.value(x, x.probe(0, Type.VOICE, Member.CALL, 0, 0), 509 * 2 + 1);
        x = new Run();
        while (x.callsLeft() > 1) {
            x.make(0, Kind.KITTEN, x.callsLeft());
        }
        due.is(x, x.event(15), 30 + 17);
    }
}
