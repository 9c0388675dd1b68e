/** Promise 12 (flow). */
final class FlowTest {
    private static final int REFUSED = FamilyProbes.REFUSED;
    private static final int VALUE = FamilyProbes.VALUE;
    private static final int INDEX = FamilyProbes.INDEX;
    private static final int SIZE = FamilyProbes.SIZE;
    private static final int LEAST = Edge.LEAST;
    private static final int GREATEST = Edge.GREATEST;

    public static void main(String[] args) {
        Due due = new Due();
        programs(due);
        divides(due);
        dividesLeast(due);
        dividesByZero(due);
        dividingNotes(due);
        turnsThatAreNone(due);
        turnsLeft(due);
        turnsEnding(due);
        turnsLeftAndEnding(due);
        turnLeftIsTheEnding(due);
        turnsByLowBits(due);
        opensAndCloses(due);
        secondCannotBeOpened(due);
        worksUnlessUnopened(due);
        workFails(due);
        closingsFail(due);
        firstFailureStands(due);
        closingsByLowBits(due);
        words(due);
        wordsByLowBits(due);
        wordsWrap(due);
        sums(due);
        sumsWrap(due);
        rowBelowZero(due);
        rowTooLong(due);
        placeOutsideRow(due);
        squareInRow(due);
        placeToldBefore(due);
        othersNoteNothing(due);
        due.end();
    }

    /** A program with its two numbers must leave this value. */
    private static void answers(Due due, int program, int a, int b, int want) {
        Run x = new Run();
        due.value(x, x.flow(program, a, b), want);
    }

    private static void notes(Due due, int program, int a, int b, int... want) {
        Run x = new Run();
        due.is(x, x.flow(program, a, b), VALUE);
        due.events(x, want);
    }

    private static void programs(Due due) {
        due.test("12: A small program 0 .. 6; REFUSED for others.");
        Run x = new Run();
        for (int program : Edge.beside(7)) {
            due.is(x, x.flow(program, 1, 0), REFUSED);
        }
        due.is(x, x.value(), 0);
        due.is(x, x.events(), 0);
        for (int program = 0; program < 7; program++) {
            due.is(x, x.flow(program, 1, 0), VALUE);
        }
    }

    private static void divides(Due due) {
        due.test("12, 0: a / b, toward zero");
        answers(due, 0, 7, 2, 3);
        answers(due, 0, -7, 2, -3);
        answers(due, 0, 7, -2, -3);
        answers(due, 0, -7, -2, 3);
        answers(due, 0, 1, 2, 0);
        answers(due, 0, -1, 2, 0);
        answers(due, 0, 2, 2, 1);
        answers(due, 0, -2, 2, -1);
        answers(due, 0, 0, 5, 0);
        answers(due, 0, 1, GREATEST, 0);
        answers(due, 0, GREATEST, LEAST, 0);
        answers(due, 0, LEAST, GREATEST, -1);
    }

    private static void dividesLeast(Due due) {
        due.test("12, 0: (the least int by -1 is itself)");
        answers(due, 0, LEAST, -1, LEAST);
        answers(due, 0, LEAST + 1, -1, GREATEST);
        answers(due, 0, GREATEST, -1, LEAST + 1);
        answers(due, 0, LEAST, -2, 1 << 30);
        answers(due, 0, LEAST, 1, LEAST);
    }

    private static void dividesByZero(Due due) {
        due.test("12, 0: b is 0: the value is -1");
        int[] numbers = {LEAST, -7, -1, 0, 1, 7, GREATEST};
        for (int a : numbers) {
            answers(due, 0, a, 0, -1);
        }
        answers(due, 0, 7, 1, 7);
        answers(due, 0, 7, -1, -7);
    }

    private static void dividingNotes(Due due) {
        due.test("12, 0: EVENT 1 in any case, at the end");
        notes(due, 0, 7, 2, 1);
        notes(due, 0, 7, 0, 1);
        notes(due, 0, LEAST, -1, 1);
        Run x = Run.with(Kind.HOUND, 1);
        x.flow(0, 7, 0);
        x.flow(0, 7, 2);
        due.events(x, 20, 1, 1);
    }

    // By left turn (the row) and ending turn (the digit): the turns counted, and those noted.
    private static final String[] COUNTED = {
        "50123455", "44012344", "40412344", "40142344", "40124344", "40123444", "50123455",
        "50123455"
    };
    private static final String[] NOTED = {
        "51234555", "55234555", "51534555", "51254555", "51235555", "51234555", "51234555",
        "51234555"
    };

    private static void turns(Due due, int a, int b) {
        Run x = new Run();
        due.value(x, x.flow(1, a, b), COUNTED[a & 7].charAt(b & 7) - '0');
        int[] noted = new int[NOTED[a & 7].charAt(b & 7) - '0'];
        for (int i = 0; i < noted.length; i++) {
            noted[i] = i + 1;
        }
        due.events(x, noted);
    }

    private static void turnsThatAreNone(Due due) {
        due.test("12, 1: for i = 1 .. 5 (0, 6 and 7 are no turns)");
        int[] none = {0, 6, 7};
        for (int a : none) {
            for (int b : none) {
                answers(due, 1, a, b, 5);
                notes(due, 1, a, b, 1, 2, 3, 4, 5);
            }
        }
    }

    private static void turnsLeft(Due due) {
        due.test("12, 1: if i is a & 7 the turn is left without counting it");
        for (int a = 1; a <= 5; a++) {
            answers(due, 1, a, 0, 4);
            notes(due, 1, a, 0, 1, 2, 3, 4, 5);
        }
    }

    private static void turnsEnding(Due due) {
        due.test("12, 1: if i is b & 7 the turns end with it, not counted");
        answers(due, 1, 0, 1, 0);
        notes(due, 1, 0, 1, 1);
        answers(due, 1, 0, 2, 1);
        notes(due, 1, 0, 2, 1, 2);
        answers(due, 1, 0, 4, 3);
        notes(due, 1, 0, 4, 1, 2, 3, 4);
        answers(due, 1, 0, 5, 4);
        notes(due, 1, 0, 5, 1, 2, 3, 4, 5);
    }

    private static void turnsLeftAndEnding(Due due) {
        due.test("12, 1: each turn, also a left one and the last, notes EVENT i at its end");
        for (int a = 0; a < 8; a++) {
            for (int b = 0; b < 8; b++) {
                turns(due, a, b);
            }
        }
    }

    // Read here: what stands first is looked at first, and a left turn looks at nothing more.
    private static void turnLeftIsTheEnding(Due due) {
        due.test("12, 1: if i is a & 7 the turn is left (and if it is b & 7 too)");
        for (int turn = 1; turn <= 5; turn++) {
            answers(due, 1, turn, turn, 4);
            notes(due, 1, turn, turn, 1, 2, 3, 4, 5);
        }
    }

    private static void turnsByLowBits(Due due) {
        due.test("12, 1: a & 7, b & 7");
        int[] high = {-8, 8, 16, 1 << 30, LEAST};
        for (int above : high) {
            for (int a = 0; a < 8; a++) {
                turns(due, a + above, 3);
                turns(due, 2, a + above);
            }
        }
        turns(due, GREATEST, GREATEST);
        turns(due, -1, -1);
    }

    private static void opensAndCloses(Due due) {
        due.test("12, 2: They are closed in turn, the last opened first, EVENTS 21, 20");
        answers(due, 2, 0, 0, 0);
        notes(due, 2, 0, 0, 10, 11, 12, 21, 20);
        Run x = new Run();
        x.flow(2, 0, 0);
        due.value(x, x.flow(2, 0, 0), 0);
        due.events(x, 10, 11, 12, 21, 20, 10, 11, 12, 21, 20);
    }

    private static void secondCannotBeOpened(Due due) {
        due.test("12, 2: can't be opened (then 11 is noted, and it is never closed)");
        int[] values = {100, 100, 101, 101};
        for (int a = 1; a < 4; a += 2) {
            for (int b = 0; b < 4; b++) {
                answers(due, 2, a, b, values[b]);
                notes(due, 2, a, b, 10, 11, 20);
            }
        }
    }

    private static void worksUnlessUnopened(Due due) {
        due.test("12, 2: Then EVENT 12, unless one could not be opened");
        for (int b = 0; b < 4; b++) {
            notes(due, 2, 0, b, 10, 11, 12, 21, 20);
            notes(due, 2, 1, b, 10, 11, 20);
            notes(due, 2, 2, b, 10, 11, 12, 21, 20);
            notes(due, 2, 3, b, 10, 11, 20);
        }
    }

    private static void workFails(Due due) {
        due.test("12, 2: the work fails if a & 2");
        answers(due, 2, 2, 0, 200);
        notes(due, 2, 2, 0, 10, 11, 12, 21, 20);
    }

    private static void closingsFail(Due due) {
        due.test("12, 2: the second's closing fails if b & 1, the first's if b & 2");
        answers(due, 2, 0, 1, 300);
        answers(due, 2, 0, 2, 400);
        answers(due, 2, 0, 3, 301);
        answers(due, 2, 1, 1, 100);
    }

    private static void firstFailureStands(Due due) {
        due.test("12, 2: What failed first is the failure, all later ones are put by");
        answers(due, 2, 0, 3, 301);
        answers(due, 2, 2, 1, 201);
        answers(due, 2, 2, 2, 201);
        answers(due, 2, 2, 3, 202);
        answers(due, 2, 1, 2, 101);
    }

    private static void closingsByLowBits(Due due) {
        due.test("12, 2: a & 1, a & 2, b & 1, b & 2 (and no other bits)");
        int[] high = {4, 8, 1 << 30, -4, LEAST};
        int[][] values = {
            {0, 300, 400, 301}, {100, 100, 101, 101}, {200, 201, 201, 202}, {100, 100, 101, 101}
        };
        for (int above : high) {
            for (int a = 0; a < 4; a++) {
                for (int b = 0; b < 4; b++) {
                    answers(due, 2, a + above, b, values[a][b]);
                    answers(due, 2, a, b + above, values[a][b]);
                }
            }
        }
    }

    private static void words(Due due) {
        due.test("12, 3: \"one\" adds 1");
        answers(due, 3, 10, 0, 11);
        due.test("12, 3: \"two\" adds 2 and goes on as \"one\"");
        answers(due, 3, 10, 1, 13);
        due.test("12, 3: \"four\" adds 4 and goes on as \"two\"");
        answers(due, 3, 10, 2, 17);
        due.test("12, 3: another word makes it 0 less a");
        answers(due, 3, 10, 3, -10);
        answers(due, 3, -10, 3, 10);
        answers(due, 3, 0, 3, 0);
    }

    private static void wordsByLowBits(Due due) {
        due.test("12, 3: told by b & 3");
        int[] want = {11, 13, 17, -10};
        int[] high = {4, -4, 8, 1 << 30, LEAST};
        for (int b = 0; b < 4; b++) {
            for (int above : high) {
                answers(due, 3, 10, b + above, want[b]);
            }
        }
    }

    private static void wordsWrap(Due due) {
        due.test("12, 3: (all ints wrap)");
        answers(due, 3, GREATEST - 1, 0, GREATEST);
        answers(due, 3, GREATEST, 0, LEAST);
        answers(due, 3, GREATEST - 3, 1, GREATEST);
        answers(due, 3, GREATEST - 2, 1, LEAST);
        answers(due, 3, GREATEST - 7, 2, GREATEST);
        answers(due, 3, GREATEST - 6, 2, LEAST);
        answers(due, 3, LEAST + 1, 3, GREATEST);
        answers(due, 3, LEAST, 3, LEAST);
    }

    private static void sums(Due due) {
        due.test("12, 4: the sum of i; i as it is now, times what i becomes; and i then");
        answers(due, 4, 3, 5, 3 + 4 * 5 + 5);
        answers(due, 4, 0, 0, 0);
        answers(due, 4, -1, 9, -1 + 9);
        answers(due, 4, 5, -2, 5 - 12 - 2);
        answers(due, 4, 100, 0, 100);
    }

    private static void sumsWrap(Due due) {
        due.test("12, 4: (all ints wrap)");
        answers(due, 4, GREATEST, 0, GREATEST);
        answers(due, 4, GREATEST, 1, 0);
        answers(due, 4, GREATEST, GREATEST, LEAST + GREATEST + GREATEST);
        answers(due, 4, LEAST, 0, LEAST);
        answers(due, 4, LEAST, 1, 2);
        answers(due, 4, 65535, 65536, 65535 + 65536);
        answers(due, 4, -1, GREATEST, GREATEST - 1);
        answers(due, 4, -1, LEAST, GREATEST);
    }

    private static void rowBelowZero(Due due) {
        due.test("12, 5: SIZE if a is below 0");
        Run x = new Run();
        int[] below = {-1, -2, -1000, -1001, LEAST};
        int[] places = {LEAST, -1, 0, 1, GREATEST};
        for (int a : below) {
            for (int b : places) {
                due.is(x, x.flow(5, a, b), SIZE);
            }
        }
        due.is(x, x.flow(5, 0, 0), INDEX);
        due.value(x, x.flow(5, 1, 0), 0);
    }

    private static void rowTooLong(Due due) {
        due.test("12, 5: (a is 0 .. 1000, else REFUSED if it is above)");
        Run x = new Run();
        int[] above = {1001, 1002, 65536, GREATEST};
        int[] places = {LEAST, -1, 0, 1, 1000, 1001, GREATEST};
        for (int a : above) {
            for (int b : places) {
                due.is(x, x.flow(5, a, b), REFUSED);
            }
        }
        due.value(x, x.flow(5, 1000, 2), 4);
        due.value(x, x.flow(5, 999, 2), 4);
    }

    private static void placeOutsideRow(Due due) {
        due.test("12, 5: INDEX if b is not 0 .. a - 1");
        int[] lengths = {0, 1, 2, 4, 999, 1000};
        for (int a : lengths) {
            Run x = new Run();
            due.is(x, x.flow(5, a, -1), INDEX);
            due.is(x, x.flow(5, a, 0), a == 0 ? INDEX : VALUE);
            due.is(x, x.flow(5, a, a - 1), a == 0 ? INDEX : VALUE);
            due.is(x, x.flow(5, a, a), INDEX);
            due.is(x, x.flow(5, a, a + 1), INDEX);
            due.is(x, x.flow(5, a, LEAST), INDEX);
            due.is(x, x.flow(5, a, GREATEST), INDEX);
        }
    }

    private static void squareInRow(Due due) {
        due.test("12, 5: place b gets b * b, and the value is the sum of all");
        answers(due, 5, 1, 0, 0);
        answers(due, 5, 2, 1, 1);
        answers(due, 5, 4, 3, 9);
        answers(due, 5, 1000, 3, 9);
        answers(due, 5, 1000, 999, 998001);
        Run x = new Run();
        due.value(x, x.flow(5, 4, 3), 9);
        due.value(x, x.flow(5, 4, 2), 4);
    }

    private static void placeToldBefore(Due due) {
        due.test("12, 6: with i = a & 1: the place i gets 25 (the place is told before)");
        int[] even = {0, 2, -2, LEAST, GREATEST - 1};
        for (int a : even) {
            answers(due, 6, a, 5, 250809);
            answers(due, 6, a + 1, 5, 72509);
        }
        Run x = new Run();
        due.value(x, x.flow(6, 0, 1), 250809);
        due.value(x, x.flow(6, 1, 0), 72509);
    }

    private static void othersNoteNothing(Due due) {
        due.test("12: EVENTS are noted as told");
        for (int program = 3; program < 7; program++) {
            notes(due, program, 2, 1);
        }
        Run x = new Run();
        x.flow(5, -1, 0);
        x.flow(5, 1, 1);
        x.flow(5, 1001, 0);
        due.events(x);
    }
}
