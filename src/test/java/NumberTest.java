import java.math.BigDecimal;
import java.math.BigInteger;
import java.math.RoundingMode;

/** Promise 13 (number), against answers written out and against exact arithmetic. */
final class NumberTest {
    private static final int REFUSED = FamilyProbes.REFUSED;
    private static final int VALUE = FamilyProbes.VALUE;
    private static final int ZERO = FamilyProbes.ZERO;
    private static final int LEAST = Edge.LEAST;
    private static final int GREATEST = Edge.GREATEST;
    private static final int EXACT_FLOATS = 1 << 24;
    private static final int[] EDGES = {
        0, 1, -1, 2, -2, 3, 7, -7, 9, 10, -9, -10, 31, 32, 33, 99, 100, 127, 128, 200, 255, 256,
        -128, -129, 32767, 32768, -32768, -32769, 65535, 65536, 70000, -70000, 16777215, 16777216,
        16777217, 16777219, -16777217, 33554435, 999999999, 1000000000, -999999999, -1000000000,
        GREATEST, GREATEST - 1, GREATEST - 63, GREATEST - 64, GREATEST - 127, LEAST, LEAST + 1,
        LEAST + 64, LEAST + 65
    };

    public static void main(String[] args) {
        Due due = new Due();
        whichNumbers(due);
        asFloat(due);
        quotients(due);
        quotientsBeyond(due);
        quotientsByZero(due);
        bytesAndChars(due);
        shifts(due);
        rests(due);
        restByZero(due);
        shorts(due);
        longs(due);
        equalFloats(due);
        threeQuarters(due);
        lengths(due);
        againstExact(due);
        due.end();
    }

    private static void answers(Due due, int which, int a, int b, int want) {
        Run x = new Run();
        due.value(x, x.number(which, a, b), want);
    }

    private static void whichNumbers(Due due) {
        due.test("13: A number 0 .. 9 of a, b; REFUSED for others.");
        Run x = new Run();
        for (int which : Edge.beside(10)) {
            due.is(x, x.number(which, 1, 1), REFUSED);
            due.is(x, x.number(which, 1, 0), REFUSED);
        }
        due.is(x, x.value(), 0);
        for (int which = 0; which < 10; which++) {
            due.is(x, x.number(which, 1, 1), VALUE);
        }
    }

    private static void asFloat(Due due) {
        due.test("13, 0: a as a float, as an int again");
        for (int b = -1; b <= 1; b++) {
            answers(due, 0, EXACT_FLOATS - 1, b, EXACT_FLOATS - 1);
            answers(due, 0, EXACT_FLOATS, b, EXACT_FLOATS);
            answers(due, 0, EXACT_FLOATS + 1, b, EXACT_FLOATS);
            answers(due, 0, EXACT_FLOATS + 2, b, EXACT_FLOATS + 2);
            answers(due, 0, EXACT_FLOATS + 3, b, EXACT_FLOATS + 4);
            answers(due, 0, -EXACT_FLOATS - 1, b, -EXACT_FLOATS);
            answers(due, 0, -EXACT_FLOATS - 3, b, -EXACT_FLOATS - 4);
            answers(due, 0, GREATEST - 64, b, GREATEST - 127);
            answers(due, 0, GREATEST - 63, b, GREATEST);
            answers(due, 0, GREATEST, b, GREATEST);
            answers(due, 0, LEAST, b, LEAST);
            answers(due, 0, LEAST + 64, b, LEAST);
            answers(due, 0, LEAST + 65, b, LEAST + 128);
            answers(due, 0, 0, b, 0);
        }
    }

    private static void quotients(Due due) {
        due.test("13, 1: a / b as doubles, as an int (toward zero");
        answers(due, 1, 7, 2, 3);
        answers(due, 1, -7, 2, -3);
        answers(due, 1, 7, -2, -3);
        answers(due, 1, -7, -2, 3);
        answers(due, 1, 1, 2, 0);
        answers(due, 1, -1, 2, 0);
        answers(due, 1, 0, -3, 0);
        answers(due, 1, GREATEST - 1, GREATEST, 0);
        answers(due, 1, GREATEST, GREATEST, 1);
    }

    private static void quotientsBeyond(Due due) {
        due.test("13, 1: the greatest or least int beyond these");
        answers(due, 1, LEAST, -1, GREATEST);
        answers(due, 1, LEAST + 1, -1, GREATEST);
        answers(due, 1, LEAST + 2, -1, GREATEST - 1);
        answers(due, 1, LEAST, 1, LEAST);
        answers(due, 1, GREATEST, -1, LEAST + 1);
        answers(due, 1, GREATEST, 1, GREATEST);
        answers(due, 1, 1, 0, GREATEST);
        answers(due, 1, GREATEST, 0, GREATEST);
        answers(due, 1, -1, 0, LEAST);
        answers(due, 1, LEAST, 0, LEAST);
    }

    private static void quotientsByZero(Due due) {
        due.test("13, 1: 0 / 0 is 0");
        answers(due, 1, 0, 0, 0);
        Run x = new Run();
        x.number(0, 77, 0);
        due.value(x, x.number(1, 0, 0), 0);
        due.value(x, x.number(1, 0, 1), 0);
    }

    private static void bytesAndChars(Due due) {
        due.test("13, 2: a as a byte, times b as a char");
        answers(due, 2, 127, 1, 127);
        answers(due, 2, 128, 1, -128);
        answers(due, 2, -128, 1, -128);
        answers(due, 2, -129, 1, 127);
        answers(due, 2, 255, 1, -1);
        answers(due, 2, 256, 1, 0);
        answers(due, 2, LEAST, 1, 0);
        answers(due, 2, GREATEST, 1, -1);
        answers(due, 2, 1, 65535, 65535);
        answers(due, 2, 1, 65536, 0);
        answers(due, 2, 1, 65537, 1);
        answers(due, 2, 1, -1, 65535);
        answers(due, 2, 1, 32768, 32768);
        answers(due, 2, 1, LEAST, 0);
        answers(due, 2, 1, GREATEST, 65535);
        answers(due, 2, -128, 65535, -8388480);
        answers(due, 2, 200, -1, -3669960);
    }

    private static void shifts(Due due) {
        due.test("13, 3: a >> b, and added a >>> b, and added a << b");
        answers(due, 3, 1, 0, 3);
        answers(due, 3, 12, 2, 3 + 3 + 48);
        answers(due, 3, -1, 0, -3);
        answers(due, 3, -1, 31, -1 + 1 + LEAST);
        answers(due, 3, LEAST, 31, -1 + 1);
        answers(due, 3, LEAST, 30, -2 + 2);
        answers(due, 3, GREATEST, 31, LEAST);
        due.test("13, 3: (by the lowest five bits of b)");
        answers(due, 3, 12, 32, 36);
        answers(due, 3, 12, 33, 6 + 6 + 24);
        answers(due, 3, 12, 34, 54);
        answers(due, 3, -9, 33, -5 + 2147483643 - 18);
        answers(due, 3, 12, -32, 36);
        answers(due, 3, 12, LEAST, 36);
        answers(due, 3, -1, 63, LEAST);
        answers(due, 3, -1, -1, LEAST);
        answers(due, 3, -1, GREATEST, LEAST);
    }

    private static void rests(Due due) {
        due.test("13, 4: the rest of a / b toward zero");
        answers(due, 4, 7, 3, 1);
        answers(due, 4, -7, 3, -1);
        answers(due, 4, 7, -3, 1);
        answers(due, 4, -7, -3, -1);
        answers(due, 4, 0, 9, 0);
        answers(due, 4, 9, 1, 0);
        answers(due, 4, 9, -1, 0);
        answers(due, 4, LEAST, -1, 0);
        answers(due, 4, LEAST, GREATEST, -1);
        answers(due, 4, GREATEST, LEAST, GREATEST);
        answers(due, 4, LEAST, LEAST, 0);
    }

    private static void restByZero(Due due) {
        due.test("13, 4: ZERO if b is 0.");
        int[] numbers = {LEAST, -1, 0, 1, GREATEST};
        for (int a : numbers) {
            Run x = new Run();
            x.number(0, 77, 0);
            due.is(x, x.number(4, a, 0), ZERO);
            due.is(x, x.value(), 77);
            due.is(x, x.number(4, a, 1), VALUE);
            due.is(x, x.number(4, a, -1), VALUE);
        }
        due.test("13: ZERO where said (and nowhere else)");
        for (int which = 0; which < 10; which++) {
            Run x = new Run();
            due.is(x, x.number(which, 1, 0), which == 4 ? ZERO : VALUE);
        }
    }

    private static void shorts(Due due) {
        due.test("13, 5: a as a short, to which b is added, as a short again");
        answers(due, 5, 32767, 0, 32767);
        answers(due, 5, 32768, 0, -32768);
        answers(due, 5, -32768, 0, -32768);
        answers(due, 5, -32769, 0, 32767);
        answers(due, 5, 65535, 0, -1);
        answers(due, 5, 65536, 7, 7);
        answers(due, 5, 32766, 1, 32767);
        answers(due, 5, 32767, 1, -32768);
        answers(due, 5, -32768, -1, 32767);
        answers(due, 5, 0, 32768, -32768);
        answers(due, 5, 0, 65536, 0);
        answers(due, 5, 1, GREATEST, 0);
        answers(due, 5, -1, LEAST, -1);
        answers(due, 5, -1, GREATEST, -2);
    }

    private static void longs(Due due) {
        due.test("13, 6: (a as a long) * b >> 16, as an int");
        answers(due, 6, 65535, 1, 0);
        answers(due, 6, 65536, 1, 1);
        answers(due, 6, -1, 1, -1);
        answers(due, 6, -65536, 1, -1);
        answers(due, 6, -65537, 1, -2);
        answers(due, 6, 70000, 70000, 74768);
        answers(due, 6, 1 << 24, (1 << 23) - 1, GREATEST - 255);
        answers(due, 6, 1 << 24, 1 << 23, LEAST);
        answers(due, 6, LEAST, LEAST, 0);
        answers(due, 6, GREATEST, GREATEST, -65536);
        answers(due, 6, LEAST, -1, 32768);
        answers(due, 6, LEAST, GREATEST, 32768);
    }

    private static void equalFloats(Due due) {
        due.test("13, 7: 1 if (a as a float) is equal to (b as a float), else 0");
        answers(due, 7, 0, 0, 1);
        answers(due, 7, 3, 4, 0);
        answers(due, 7, -3, 3, 0);
        answers(due, 7, EXACT_FLOATS - 1, EXACT_FLOATS, 0);
        answers(due, 7, EXACT_FLOATS, EXACT_FLOATS + 1, 1);
        answers(due, 7, EXACT_FLOATS + 1, EXACT_FLOATS + 2, 0);
        answers(due, 7, EXACT_FLOATS + 1, EXACT_FLOATS + 3, 0);
        answers(due, 7, -EXACT_FLOATS, -EXACT_FLOATS - 1, 1);
        answers(due, 7, GREATEST, GREATEST - 63, 1);
        answers(due, 7, GREATEST, GREATEST - 64, 0);
        answers(due, 7, GREATEST, LEAST, 0);
        answers(due, 7, LEAST, LEAST + 64, 1);
        answers(due, 7, LEAST, LEAST + 65, 0);
    }

    private static void threeQuarters(Due due) {
        due.test("13, 8: the int nearest to zero of a * 0.75 (exact)");
        int[] numbers = {-5, -4, -3, -2, -1, 0, 1, 2, 3, 4, 5};
        int[] want = {-3, -3, -2, -1, 0, 0, 0, 1, 2, 3, 3};
        for (int i = 0; i < numbers.length; i++) {
            answers(due, 8, numbers[i], 9, want[i]);
        }
        answers(due, 8, GREATEST, 0, 1610612735);
        answers(due, 8, LEAST, 0, -1610612736);
        answers(due, 8, LEAST + 1, 0, -1610612735);
        answers(due, 8, EXACT_FLOATS + 1, 0, 12582912);
        answers(due, 8, EXACT_FLOATS + 3, 0, 12582914);
    }

    private static void lengths(Due due) {
        due.test("13, 9: the length of the text of a, one blank, and b in decimals");
        int[] numbers = {
            0, 9, 10, 99, 100, 999999999, 1000000000, GREATEST, -1, -9, -10, -99, -100,
            -999999999, -1000000000, LEAST + 1, LEAST
        };
        int[] want = {1, 1, 2, 2, 3, 9, 10, 10, 2, 2, 3, 3, 4, 10, 11, 11, 11};
        for (int i = 0; i < numbers.length; i++) {
            answers(due, 9, numbers[i], 0, want[i] + 2);
            answers(due, 9, 0, numbers[i], want[i] + 2);
            answers(due, 9, numbers[i], numbers[i], 2 * want[i] + 1);
        }
    }

    private static void againstExact(Due due) {
        due.test("13: VALUE; ZERO where said (edges by edges, against exact arithmetic)");
        for (int a : EDGES) {
            for (int b : EDGES) {
                Run x = new Run();
                for (int which = 0; which < 10; which++) {
                    if (which == 4 && b == 0) {
                        due.is(x, x.number(4, a, b), ZERO);
                    } else {
                        due.value(x, x.number(which, a, b), want(which, a, b));
                    }
                }
                due.is(x, x.events(), 0);
            }
        }
    }

    private static int want(int which, int a, int b) {
        BigInteger first = BigInteger.valueOf(a);
        BigInteger second = BigInteger.valueOf(b);
        BigInteger shift = BigInteger.ONE.shiftLeft(b & 31);
        switch (which) {
            case 0:
                return within(nearestFloat(a));
            case 1:
                return b == 0 ? within(Long.signum(a) * (1L << 40)) : within((long) a / b);
            case 2:
                return ((a & 255) < 128 ? a & 255 : (a & 255) - 256) * (b & 65535);
            case 3:
                BigInteger unsigned = BigInteger.valueOf(a & 0xFFFFFFFFL);
                BigInteger floor = BigInteger.valueOf(Math.floorDiv((long) a, shift.longValue()));
                return floor.add(unsigned.divide(shift)).add(first.multiply(shift)).intValue();
            case 4:
                return first.remainder(second).intValue();
            case 5:
                return lowest16(lowest16(a) + b);
            case 6:
                return first.multiply(second).shiftRight(16).intValue();
            case 7:
                return nearestFloat(a) == nearestFloat(b) ? 1 : 0;
            case 8:
                return BigDecimal.valueOf(a).multiply(new BigDecimal("0.75"))
                        .setScale(0, RoundingMode.DOWN).intValueExact();
            default:
                return (a + " " + b).length();
        }
    }

    private static int lowest16(int number) {
        int bits = number & 65535;
        return bits < 32768 ? bits : bits - 65536;
    }

    private static int within(long number) {
        return (int) Math.max(LEAST, Math.min(GREATEST, number));
    }

    /** An int as a float: the nearest number of 24 bits, halves to the even one. */
    private static long nearestFloat(int number) {
        long size = Math.abs((long) number);
        int bits = Math.max(0, 64 - Long.numberOfLeadingZeros(size) - 24);
        BigDecimal unit = BigDecimal.valueOf(1L << bits);
        long units = BigDecimal.valueOf(size).divide(unit, 0, RoundingMode.HALF_EVEN).longValue();
        return Long.signum(number) * (units << bits);
    }
}
