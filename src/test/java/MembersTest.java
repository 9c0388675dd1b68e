/** The members: which types have them, and what they answer. */
final class MembersTest {
    private static final int REFUSED = FamilyProbes.REFUSED;
    private static final int VALUE = FamilyProbes.VALUE;
    private static final int CAST = FamilyProbes.CAST;
    private static final int NULL = FamilyProbes.NULL;
    private static final int[] TYPES_OF_BASES = {Type.BASE, Type.HOUND, Type.CAT, Type.KITTEN};

    public static void main(String[] args) {
        Due due = new Due();
        whichTypesHaveThem(due);
        call(due);
        shadowsAreCounted(due);
        shadowsAreCountedOnlyWhenCalled(due);
        repeaterCalls(due);
        twice(due);
        volume(due);
        weight(due);
        numberNotLookedAt(due);
        describe(due);
        open(due);
        mark(due);
        markNeedsThing(due);
        tone(due);
        rank(due);
        noThingIsNeeded(due);
        seed(due);
        size(due);
        sizeBelowBase(due);
        over(due);
        due.end();
    }

    private static void whichTypesHaveThem(Due due) {
        String[] sentences = {
            "0 CALL(x), of all types.", "1 TWICE(x), of all types.",
            "2 VOLUME(x), of LOUD, SOFT and all that are one of them.",
            "3 WEIGHT, of BASE and below", "4 DESCRIBE, of BASE and below",
            "5 OPEN(x), of BASE and below", "6 MARK, of BASE and below",
            "7 TONE, of VOICE, LOUD, SOFT and BIRD alone", "8 RANK(x), of BASE and below",
            "9 SEED, of BASE and below.", "10 SIZE, of BASE and ECHO alone",
            "11 OVER: of HOUND, KITTEN"
        };
        for (int member = 0; member < Member.ALL; member++) {
            due.test("Terms: " + sentences[member]);
            for (int at = 0; at < Type.ALL * 4; at++) {
                int type = at % Type.ALL;
                int has = Member.needsThing(member) ? NULL : VALUE;
                Run x = new Run();
                due.is(x, x.probe(0, type, member, 1, at / Type.ALL),
                        Member.isIn(type, member) ? has : REFUSED);
            }
        }
    }

    /** A thing with n = 5, asked with x = 7 through each type that has the member. */
    private static void answers(Due due, int kind, int member, int want) {
        for (int type = 0; type < Type.ALL; type++) {
            if (Type.has(type, kind) && Member.isIn(type, member)) {
                for (int manner = 0; manner < 4; manner++) {
                    Run x = Run.with(kind, 5);
                    due.value(x, x.probe(0, type, member, 7, manner), want);
                }
            }
        }
    }

    private static void call(Due due) {
        due.test("0 CALL: HOUND: x + n.");
        answers(due, Kind.HOUND, Member.CALL, 12);
        due.test("0 CALL: CAT (and STRAY): x - n.");
        answers(due, Kind.CAT, Member.CALL, 2);
        answers(due, Kind.STRAY, Member.CALL, 2);
        due.test("0 CALL: KITTEN: 2 * (CALL as a CAT has it).");
        answers(due, Kind.KITTEN, Member.CALL, 4);
        due.test("0 CALL: ECHO: x.");
        answers(due, Kind.ECHO, Member.CALL, 7);
        due.test("0 CALL: wren: x + 2.");
        answers(due, Kind.WREN, Member.CALL, 9);
        due.test("0 CALL: owl: 9 * x.");
        answers(due, Kind.OWL, Member.CALL, 63);
        due.test("0 CALL: SHADOW: x + n + that count.");
        answers(due, Kind.SHADOW, Member.CALL, 13);
        due.test("0 CALL: TIMES: x * n.");
        answers(due, Kind.TIMES, Member.CALL, 35);
    }

    private static void shadowsAreCounted(Due due) {
        due.test("0 CALL: SHADOW: the count of all CALLS of SHADOWS grows by 1");
        for (int manner = 0; manner < 4; manner++) {
            Run x = Run.with(Kind.SHADOW, 0);
            due.value(x, x.probe(0, Type.VOICE, Member.CALL, 0, manner), 1);
            due.value(x, x.probe(0, Type.VOICE, Member.TWICE, 0, manner), 2 + 3);
            x.make(1, Kind.SHADOW, 10);
            due.value(x, x.probe(1, Type.VOICE, Member.CALL, 0, manner), 10 + 4);
            x.make(2, Kind.REPEATER, 0);
            due.value(x, x.probe(2, Type.VOICE, Member.CALL, 0, manner), 5);
            x.drop(0);
            x.make(0, Kind.SHADOW, 0);
            due.value(x, x.probe(0, Type.VOICE, Member.CALL, 0, manner), 6);
        }
    }

    private static void shadowsAreCountedOnlyWhenCalled(Due due) {
        due.test("0 CALL: SHADOW: no other probe is a CALL of a SHADOW");
        Run x = Run.with(Kind.SHADOW, 0);
        x.make(1, Kind.TIMES, 2);
        x.make(2, Kind.REPEATER, 1);
        due.is(x, x.probe(0, Type.BASE, Member.CALL, 0, 0), CAST);
        due.is(x, x.probe(0, Type.VOICE, Member.VOLUME, 0, 0), REFUSED);
        due.is(x, x.probe(0, Type.VOICE, Member.CALL, 0, 4), REFUSED);
        due.is(x, x.probe(7, Type.VOICE, Member.CALL, 0, 0), NULL);
        due.value(x, x.probe(0, Type.VOICE, Member.TONE, 0, 0), 5);
        due.value(x, x.probe(1, Type.VOICE, Member.TWICE, 1, 0), 4);
        due.value(x, x.probe(2, Type.VOICE, Member.TWICE, 1, 0), 4);
        due.value(x, x.probe(0, Type.VOICE, Member.CALL, 0, 0), 1);
    }

    private static void repeaterCalls(Due due) {
        due.test("0 CALL: REPEATER: CALL(x) of the thing that it was made of.");
        int[] callOf7 = {12, 2, 4, 7, 9, 63, 13, 35};
        for (int kind = 0; kind < callOf7.length; kind++) {
            for (int manner = 0; manner < 4; manner++) {
                Run x = Run.with(kind, 5);
                x.make(1, Kind.REPEATER, 0);
                x.make(2, Kind.REPEATER, 1);
                due.value(x, x.probe(2, Type.VOICE, Member.CALL, 7, manner), callOf7[kind]);
            }
        }
    }

    private static void twice(Due due) {
        due.test("1 TWICE: VOICE: CALL(CALL(x)).");
        answers(due, Kind.ECHO, Member.TWICE, 7);
        answers(due, Kind.SHADOW, Member.TWICE, 7 + 5 + 1 + 5 + 2);
        answers(due, Kind.TIMES, Member.TWICE, 175);
        due.test("1 TWICE: LOUD: 2 * CALL(x).");
        answers(due, Kind.HOUND, Member.TWICE, 24);
        answers(due, Kind.WREN, Member.TWICE, 18);
        answers(due, Kind.OWL, Member.TWICE, 126);
        due.test("1 TWICE: SOFT: CALL(x) - 1.");
        answers(due, Kind.CAT, Member.TWICE, 1);
        answers(due, Kind.STRAY, Member.TWICE, 1);
        due.test("1 TWICE: KITTEN: TWICE as LOUD has it, and added TWICE as CAT has it");
        answers(due, Kind.KITTEN, Member.TWICE, 8 + 3);
        due.test("1 TWICE: Others have that of the nearest type. (a REPEATER's is VOICE)");
        int[] callTwice = {17, -3, -2, 7, 11, 567, 20, 175};
        for (int kind = 0; kind < callTwice.length; kind++) {
            Run x = Run.with(kind, 5);
            x.make(1, Kind.REPEATER, 0);
            due.value(x, x.probe(1, Type.VOICE, Member.TWICE, 7, kind & 3), callTwice[kind]);
        }
    }

    private static void volume(Due due) {
        due.test("2 VOLUME: LOUD: x + 10.");
        answers(due, Kind.HOUND, Member.VOLUME, 17);
        answers(due, Kind.WREN, Member.VOLUME, 17);
        answers(due, Kind.OWL, Member.VOLUME, 17);
        due.test("2 VOLUME: SOFT: x - 10.");
        answers(due, Kind.CAT, Member.VOLUME, -3);
        answers(due, Kind.STRAY, Member.VOLUME, -3);
        due.test("2 VOLUME: KITTEN: VOLUME as LOUD has it, times 3.");
        answers(due, Kind.KITTEN, Member.VOLUME, 51);
    }

    private static void weight(Due due) {
        due.test("3 WEIGHT: BASE: 2 * n. HOUND: BASE's and 1.");
        answers(due, Kind.HOUND, Member.WEIGHT, 11);
        due.test("3 WEIGHT: CAT: 3 * n.");
        answers(due, Kind.CAT, Member.WEIGHT, 15);
        due.test("3 WEIGHT: KITTEN: CAT's, doubled.");
        answers(due, Kind.KITTEN, Member.WEIGHT, 30);
        due.test("3 WEIGHT: STRAY: CAT's and its EXTRA, n + 1.");
        answers(due, Kind.STRAY, Member.WEIGHT, 21);
    }

    private static void numberNotLookedAt(Due due) {
        due.test("3 WEIGHT: (x is not looked at)");
        int[] members = {
            Member.WEIGHT, Member.DESCRIBE, Member.MARK, Member.TONE, Member.SEED, Member.SIZE,
            Member.OVER
        };
        int[] types = {
            Type.HOUND, Type.HOUND, Type.HOUND, Type.LOUD, Type.HOUND, Type.BASE, Type.HOUND
        };
        int[] want = {11, 111, 2, 7, 24, 5, 10};
        int[] numbers = {Edge.LEAST, -1, 0, 1, Edge.GREATEST};
        for (int i = 0; i < members.length; i++) {
            for (int number : numbers) {
                Run x = Run.with(Kind.HOUND, 5);
                due.value(x, x.probe(0, types[i], members[i], number, 0), want[i]);
            }
        }
    }

    private static void describe(Due due) {
        due.test("4 DESCRIBE: WEIGHT of the thing, and added 100 * the MARK of BASE.");
        answers(due, Kind.HOUND, Member.DESCRIBE, 111);
        answers(due, Kind.CAT, Member.DESCRIBE, 115);
        answers(due, Kind.KITTEN, Member.DESCRIBE, 130);
        answers(due, Kind.STRAY, Member.DESCRIBE, 121);
    }

    private static void open(Due due) {
        due.test("5 OPEN: the secret number of BASE, x + 100");
        answers(due, Kind.CAT, Member.OPEN, 107);
        answers(due, Kind.KITTEN, Member.OPEN, 107);
        answers(due, Kind.STRAY, Member.OPEN, 107);
        due.test("5 OPEN: (HOUND has a secret number of its own that OPEN does not look at)");
        answers(due, Kind.HOUND, Member.OPEN, 107);
    }

    private static void mark(Due due) {
        due.test("6 MARK: by the type asked through: BASE 1, HOUND 2, CAT 3, KITTEN CAT's.");
        int[] marks = {1, 2, 3, 3};
        for (int kind : Kind.BASES) {
            for (int i = 0; i < marks.length; i++) {
                if (Type.has(TYPES_OF_BASES[i], kind)) {
                    for (int manner = 0; manner < 4; manner++) {
                        Run x = Run.with(kind, 5);
                        due.value(x, x.probe(0, TYPES_OF_BASES[i], Member.MARK, 0, manner),
                                marks[i]);
                    }
                }
            }
        }
    }

    private static void markNeedsThing(Due due) {
        due.test("6 MARK: (no word that no thing is needed)");
        for (int type : TYPES_OF_BASES) {
            for (int manner = 0; manner < 4; manner++) {
                Run x = new Run();
                due.is(x, x.probe(0, type, Member.MARK, 0, manner), NULL);
                x.make(0, Kind.ECHO, 1);
                due.is(x, x.probe(0, type, Member.MARK, 0, manner), CAST);
            }
        }
    }

    /** A member that goes by the type, of no thing, of one of the type and of one that is not. */
    private static void byType(Due due, int type, int member, int want) {
        for (int manner = 0; manner < 4; manner++) {
            Run x = new Run();
            due.value(x, x.probe(0, type, member, 10, manner), want);
            for (int kind = 0; kind < Kind.ALL; kind++) {
                x.make(0, kind, 0);
                due.value(x, x.probe(0, type, member, 10, manner), want);
            }
        }
    }

    private static void tone(Due due) {
        due.test("7 TONE: by the type: VOICE 5");
        byType(due, Type.VOICE, Member.TONE, 5);
        due.test("7 TONE: LOUD 7");
        byType(due, Type.LOUD, Member.TONE, 7);
        due.test("7 TONE: SOFT (has none) VOICE's");
        byType(due, Type.SOFT, Member.TONE, 5);
        due.test("7 TONE: BIRD LOUD's");
        byType(due, Type.BIRD, Member.TONE, 7);
    }

    private static void rank(Due due) {
        due.test("8 RANK: by the type: BASE x + 1");
        byType(due, Type.BASE, Member.RANK, 11);
        due.test("8 RANK: HOUND x + 2");
        byType(due, Type.HOUND, Member.RANK, 12);
        due.test("8 RANK: CAT BASE's");
        byType(due, Type.CAT, Member.RANK, 11);
        due.test("8 RANK: KITTEN x + 6");
        byType(due, Type.KITTEN, Member.RANK, 16);
    }

    private static void noThingIsNeeded(Due due) {
        due.test("7 TONE, 8 RANK: (No thing is needed.)");
        Run x = Run.with(Kind.SHADOW, 1);
        for (int slot = 0; slot < 8; slot++) {
            due.is(x, x.probe(slot, Type.BIRD, Member.TONE, 0, slot & 3), VALUE);
            due.is(x, x.probe(slot, Type.KITTEN, Member.RANK, 0, slot & 3), VALUE);
            due.is(x, x.probe(slot, Type.KITTEN, Member.CALL, 0, 0), slot == 0 ? CAST : NULL);
        }
        due.is(x, x.probe(-1, Type.BIRD, Member.TONE, 0, 0), REFUSED);
        due.is(x, x.probe(8, Type.BIRD, Member.TONE, 0, 0), REFUSED);
        due.is(x, x.probe(-1, Type.KITTEN, Member.RANK, 0, 0), REFUSED);
        due.is(x, x.probe(8, Type.KITTEN, Member.RANK, 0, 0), REFUSED);
    }

    private static void seed(Due due) {
        due.test("9 SEED: BASE: 1. CAT: BASE's.");
        answers(due, Kind.CAT, Member.SEED, 1);
        answers(due, Kind.STRAY, Member.SEED, 1);
        due.test("9 SEED: HOUND: 20 + its BONUS.");
        answers(due, Kind.HOUND, Member.SEED, 24);
        due.test("9 SEED: KITTEN: 30 + n.");
        answers(due, Kind.KITTEN, Member.SEED, 35);
    }

    private static void size(Due due) {
        due.test("10 SIZE: n.");
        for (int kind : Kind.BASES) {
            answers(due, kind, Member.SIZE, 5);
        }
        answers(due, Kind.ECHO, Member.SIZE, 5);
    }

    private static void sizeBelowBase(Due due) {
        due.test("10 SIZE: of BASE and ECHO alone (of no type below BASE)");
        for (int kind = 0; kind < Kind.ALL; kind++) {
            Run x = Run.with(Kind.HOUND, 5);
            x.make(1, kind, 0);
            due.is(x, x.probe(1, Type.HOUND, Member.SIZE, 0, 0), REFUSED);
            due.is(x, x.probe(1, Type.CAT, Member.SIZE, 0, 0), REFUSED);
            due.is(x, x.probe(1, Type.KITTEN, Member.SIZE, 0, 0), REFUSED);
            due.is(x, x.probe(1, Type.BASE, Member.SIZE, 0, 0),
                    Type.has(Type.BASE, kind) ? VALUE : CAST);
            due.is(x, x.probe(1, Type.ECHO, Member.SIZE, 0, 0), kind == Kind.ECHO ? VALUE : CAST);
        }
    }

    private static void over(Due due) {
        due.test("11 OVER: WEIGHT as the type that HOUND extends has it.");
        answers(due, Kind.HOUND, Member.OVER, 10);
        due.test("11 OVER: WEIGHT as the type that KITTEN extends has it.");
        answers(due, Kind.KITTEN, Member.OVER, 15);
    }
}
