import java.math.BigDecimal;
import java.math.BigInteger;
import java.math.RoundingMode;

/** Promise 13 (number), against answers written out and against exact arithmetic. */
final class NumberTest {
    private static final int LEAST = Integer.MIN_VALUE;
    private static final int GREATEST = Integer.MAX_VALUE;
    private static final int[] EDGES = {
        0, 1, -1, 2, -2, 3, 7, -7, 9, 10, -9, -10, 31, 32, 33, 99, 100, 127, 128, 200, 255, 256,
        -128, -129, 32767, 32768, -32768, -32769, 65535, 65536, 70000, -70000, 16777215, 16777216,
        16777217, 16777219, -16777217, 33554435, 999999999, 1000000000, -999999999, -1000000000,
        GREATEST, GREATEST - 1, GREATEST - 63, GREATEST - 64, GREATEST - 127, LEAST, LEAST + 1,
        LEAST + 64, LEAST + 65
    };
    // which, a, b, the value.
    private static final int[][] WRITTEN = {
        {0, 16777217, 0, 16777216}, {0, 16777219, 0, 16777220}, {0, GREATEST, 0, GREATEST},
        {0, LEAST, 5, LEAST}, {0, LEAST + 1, 0, LEAST}, {0, 5, 7, 5},
        {1, 7, 2, 3}, {1, -7, 2, -3}, {1, 5, 0, GREATEST}, {1, -5, 0, LEAST}, {1, 0, 0, 0},
        {1, LEAST, -1, GREATEST}, {1, 0, -3, 0}, {1, LEAST, 1, LEAST},
        {2, 200, -1, -3669960}, {2, 127, 65536, 0}, {2, -128, 65535, -8388480}, {2, 256, 5, 0},
        {3, -9, 33, 2147483620}, {3, 1, 0, 3}, {3, LEAST, 31, 0}, {3, -1, -1, LEAST},
        {4, -7, 3, -1}, {4, 7, -3, 1}, {4, LEAST, -1, 0}, {4, 0, 9, 0},
        {5, 32767, 1, -32768}, {5, 65536, 7, 7}, {5, -1, GREATEST, -2}, {5, 1, GREATEST, 0},
        {6, 70000, 70000, 74768}, {6, -1, 1, -1}, {6, LEAST, LEAST, 0},
        {6, GREATEST, GREATEST, -65536},
        {7, 16777216, 16777217, 1}, {7, 16777217, 16777219, 0}, {7, GREATEST, GREATEST - 1, 1},
        {7, 3, 4, 0}, {7, 0, 0, 1}, {8, -3, 0, -2}, {8, 3, 0, 2}, {8, 4, 0, 3}, {8, -1, 0, 0},
        {8, GREATEST, 0, 1610612735}, {8, LEAST, 0, -1610612736},
        {9, -12, 345, 7}, {9, 0, 0, 3}, {9, LEAST, LEAST, 23}, {9, GREATEST, 9, 12}, {9, 10, -1, 5}
    };

    public static void main(String[] args) {
        Due due = new Due();
        FamilyProbes x = new FamilyProbes();
        for (int[] w : WRITTEN) {
            due.value(x, call(w[0], w[1], w[2]), x.number(w[0], w[1], w[2]), w[3]);
        }
        for (int a : EDGES) {
            for (int b : EDGES) {
                exact(due, a, b);
            }
        }
        refuses(due);
        due.end();
    }

    private static String call(int which, int a, int b) {
        return "number(" + which + ", " + a + ", " + b + ")";
    }

    private static void exact(Due due, int a, int b) {
        FamilyProbes x = new FamilyProbes();
        for (int which = 0; which < 10; which++) {
            if (which == 4 && b == 0) {
                x.number(0, 77, 0);
                due.is(call(4, a, b), x.number(4, a, b), FamilyProbes.ZERO);
                due.is("the value stays", x.value(), 77);
            } else {
                due.value(x, call(which, a, b), x.number(which, a, b), want(which, a, b));
            }
        }
        due.is("no EVENT", x.events(), 0);
    }

    private static int want(int which, int a, int b) {
        BigInteger first = BigInteger.valueOf(a);
        BigInteger second = BigInteger.valueOf(b);
        BigInteger shift = BigInteger.ONE.shiftLeft(b & 31);
        switch (which) {
            case 0:
                return within(nearestFloat(a));
            case 1:
                return b == 0 ? within(Long.signum(a) * (1L << 40)) : within((long) a / b);
            case 2:
                return ((a & 255) < 128 ? a & 255 : (a & 255) - 256) * (b & 65535);
            case 3:
                BigInteger unsigned = BigInteger.valueOf(a & 0xFFFFFFFFL);
                BigInteger floor = BigInteger.valueOf(Math.floorDiv((long) a, shift.longValue()));
                return floor.add(unsigned.divide(shift)).add(first.multiply(shift)).intValue();
            case 4:
                return first.remainder(second).intValue();
            case 5:
                return lowest16(lowest16(a) + b);
            case 6:
                return first.multiply(second).shiftRight(16).intValue();
            case 7:
                return nearestFloat(a) == nearestFloat(b) ? 1 : 0;
            case 8:
                return BigDecimal.valueOf(a).multiply(new BigDecimal("0.75"))
                        .setScale(0, RoundingMode.DOWN).intValueExact();
            default:
                return (a + " " + b).length();
        }
    }

    private static int lowest16(int number) {
        int bits = number & 65535;
        return bits < 32768 ? bits : bits - 65536;
    }

    private static int within(long number) {
        return (int) Math.max(LEAST, Math.min(GREATEST, number));
    }

    /** An int as a float: the nearest number of 24 bits, halves to the even one. */
    private static long nearestFloat(int number) {
        long size = Math.abs((long) number);
        int bits = Math.max(0, 64 - Long.numberOfLeadingZeros(size) - 24);
        BigDecimal unit = BigDecimal.valueOf(1L << bits);
        long units = BigDecimal.valueOf(size).divide(unit, 0, RoundingMode.HALF_EVEN).longValue();
        return Long.signum(number) * (units << bits);
    }

    private static void refuses(Due due) {
        FamilyProbes x = new FamilyProbes();
        int[] others = {-1, 10, 11, 256, LEAST, GREATEST};
        for (int which : others) {
            due.is(call(which, 1, 1), x.number(which, 1, 1), FamilyProbes.REFUSED);
            due.is(call(which, 1, 0), x.number(which, 1, 0), FamilyProbes.REFUSED);
        }
        due.is("no value", x.value(), 0);
    }
}
