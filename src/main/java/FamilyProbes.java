/**
 * Probes of a family of kinds. The document (DOC.md) says what each call answers, as numbered
 * promises.
 *
 * <p>A thing is held as data: its kind, its numbers and, for a REPEATER, the thing that it repeats.
 * What a kind inherits, overrides or hides stands in the functions named after the members.
 */
public final class FamilyProbes {
    public static final int REFUSED = -1;
    public static final int VALUE = 0;
    public static final int CAST = 1;
    public static final int NULL = 2;
    public static final int STORE = 3;
    public static final int INDEX = 4;
    public static final int ZERO = 5;
    public static final int SIZE = 6;

    private static final int SLOTS = 8;
    private static final int KINDS = 10;
    private static final int TYPES = 9;
    private static final int MEMBERS = 12;
    private static final int MANNERS = 4;
    private static final int ROWS = 4;
    private static final int PLACES = 4;
    private static final int EVENTS_KEPT = 16;
    private static final int EVENT_MASK = EVENTS_KEPT - 1;
    private static final int MOST_REPEATERS = 3;
    private static final int LONGEST_ROW = 1000;
    private static final int MOST_DIGITS = 10;
    private static final int GREATEST_INT = 2147483647;
    private static final int LEAST_INT = -2147483648;

    private static final int TYPE_VOICE = 0;
    private static final int TYPE_LOUD = 1;
    private static final int TYPE_SOFT = 2;
    private static final int TYPE_BASE = 3;
    private static final int TYPE_HOUND = 4;
    private static final int TYPE_CAT = 5;
    private static final int TYPE_KITTEN = 6;
    private static final int TYPE_ECHO = 7;
    private static final int TYPE_BIRD = 8;

    private static final int KIND_HOUND = 0;
    private static final int KIND_CAT = 1;
    private static final int KIND_KITTEN = 2;
    private static final int KIND_ECHO = 3;
    private static final int KIND_WREN = 4;
    private static final int KIND_OWL = 5;
    private static final int KIND_SHADOW = 6;
    private static final int KIND_TIMES = 7;
    private static final int KIND_REPEATER = 8;
    private static final int KIND_STRAY = 9;

    private static final int MEMBER_CALL = 0;
    private static final int MEMBER_TWICE = 1;
    private static final int MEMBER_VOLUME = 2;
    private static final int MEMBER_WEIGHT = 3;
    private static final int MEMBER_DESCRIBE = 4;
    private static final int MEMBER_OPEN = 5;
    private static final int MEMBER_MARK = 6;
    private static final int MEMBER_TONE = 7;
    private static final int MEMBER_RANK = 8;
    private static final int MEMBER_SEED = 9;
    private static final int MEMBER_SIZE = 10;

    // Sets of types, a bit each: all that a thing is whose nearest type is the named one.
    private static final int AS_VOICE = 1 << TYPE_VOICE;
    private static final int AS_LOUD = AS_VOICE | 1 << TYPE_LOUD;
    private static final int AS_SOFT = AS_VOICE | 1 << TYPE_SOFT;
    private static final int AS_BASE = AS_VOICE | 1 << TYPE_BASE;
    private static final int AS_HOUND = AS_BASE | AS_LOUD | 1 << TYPE_HOUND;
    private static final int AS_CAT = AS_BASE | AS_SOFT | 1 << TYPE_CAT;
    private static final int AS_KITTEN = AS_CAT | AS_LOUD | 1 << TYPE_KITTEN;
    private static final int AS_ECHO = AS_VOICE | 1 << TYPE_ECHO;
    private static final int AS_BIRD = AS_LOUD | 1 << TYPE_BIRD;

    private static final int[] TYPES_OF_KIND = {
        AS_HOUND, AS_CAT, AS_KITTEN, AS_ECHO, AS_BIRD, AS_BIRD, AS_VOICE, AS_VOICE, AS_VOICE, AS_CAT
    };

    // Sets of types that have a member.
    private static final int IN_ALL = (1 << TYPES) - 1;
    private static final int IN_BASE_AND_BELOW =
            1 << TYPE_BASE | 1 << TYPE_HOUND | 1 << TYPE_CAT | 1 << TYPE_KITTEN;
    private static final int IN_LOUD_OR_SOFT =
            1 << TYPE_LOUD | 1 << TYPE_SOFT | 1 << TYPE_HOUND | 1 << TYPE_CAT
            | 1 << TYPE_KITTEN | 1 << TYPE_BIRD;
    private static final int IN_TONED =
            1 << TYPE_VOICE | 1 << TYPE_LOUD | 1 << TYPE_SOFT | 1 << TYPE_BIRD;
    private static final int IN_SIZED = 1 << TYPE_BASE | 1 << TYPE_ECHO;
    private static final int IN_OVER = 1 << TYPE_HOUND | 1 << TYPE_KITTEN;

    private static final int[] TYPES_WITH_MEMBER = {
        IN_ALL, IN_ALL, IN_LOUD_OR_SOFT, IN_BASE_AND_BELOW, IN_BASE_AND_BELOW, IN_BASE_AND_BELOW,
        IN_BASE_AND_BELOW, IN_TONED, IN_BASE_AND_BELOW, IN_BASE_AND_BELOW, IN_SIZED, IN_OVER
    };

    private static final int[] TYPE_OF_ROW = {TYPE_VOICE, TYPE_BASE, TYPE_CAT, TYPE_HOUND};

    /** A thing of the family. */
    private static final class Thing {
        private final int kind;
        private final int n;
        private final Thing source;
        private final int repeaters;
        private int bonus;
        private int extra;

        private Thing(int kind, int n, Thing source) {
            this.kind = kind;
            this.n = n;
            this.source = source;
            this.repeaters = source == null ? 0 : source.repeaters + 1;
        }
    }

    private final Thing wren = new Thing(KIND_WREN, 2, null);
    private final Thing owl = new Thing(KIND_OWL, 9, null);
    private final Thing[] slots = new Thing[SLOTS];
    private final Thing[] places = new Thing[ROWS * PLACES];
    private final Thing[] passing = new Thing[PLACES];
    private final int[] lastEvents = new int[EVENTS_KEPT];
    private int eventCount;
    private int shadowCalls;
    private int lastValue;

    public FamilyProbes() {
    }

    public int make(int slot, int kind, int n) {
        if (!isBelow(slot, SLOTS) || !isBelow(kind, KINDS)) {
            return REFUSED;
        }
        if (kind == KIND_REPEATER) {
            return putRepeater(slot, slots[n & 7]);
        }
        slots[slot] = newThing(kind, n);
        return VALUE;
    }

    public int drop(int slot) {
        if (!isBelow(slot, SLOTS)) {
            return REFUSED;
        }
        int went = slots[slot] == null ? NULL : VALUE;
        slots[slot] = null;
        return went;
    }

    // The manner is only looked at for its range: all four must answer the same.
    public int probe(int slot, int type, int member, int x, int manner) {
        if (!isBelow(slot, SLOTS) || !isBelow(type, TYPES)
                || !isBelow(member, MEMBERS) || !isBelow(manner, MANNERS)
                || !holds(TYPES_WITH_MEMBER[member], type)) {
            return REFUSED;
        }
        if (member == MEMBER_TONE) {
            return wentWith(toneOf(type));
        }
        if (member == MEMBER_RANK) {
            return wentWith(rankOf(type, x));
        }
        Thing thing = slots[slot];
        if (thing == null) {
            return NULL;
        }
        if (!isOfType(thing, type)) {
            return CAST;
        }
        return wentWith(answerOf(thing, type, member, x));
    }

    public int value() {
        return lastValue;
    }

    public boolean is(int slot, int type) {
        if (!isBelow(slot, SLOTS) || !isBelow(type, TYPES)) {
            return false;
        }
        Thing thing = slots[slot];
        return thing != null && isOfType(thing, type);
    }

    public boolean same(int a, int b) {
        return isBelow(a, SLOTS) && isBelow(b, SLOTS) && slots[a] == slots[b];
    }

    public int store(int row, int place, int slot) {
        if (!isBelow(row, ROWS) || !isBelow(slot, SLOTS)) {
            return REFUSED;
        }
        if (!isBelow(place, PLACES)) {
            return INDEX;
        }
        return putInRow(row, place, slots[slot]);
    }

    public int load(int row, int place, int slot) {
        if (!isBelow(row, ROWS) || !isBelow(slot, SLOTS)) {
            return REFUSED;
        }
        if (!isBelow(place, PLACES)) {
            return INDEX;
        }
        slots[slot] = places[row * PLACES + place];
        return VALUE;
    }

    public int copy(int from, int at, int to, int there, int n) {
        if (!isBelow(from, ROWS) || !isBelow(to, ROWS)) {
            return REFUSED;
        }
        if (!isStretch(at, n) || !isStretch(there, n)) {
            return INDEX;
        }
        for (int i = 0; i < n; i++) {
            passing[i] = places[from * PLACES + at + i];
        }
        for (int i = 0; i < n; i++) {
            if (putInRow(to, there + i, passing[i]) == STORE) {
                return STORE;
            }
        }
        return VALUE;
    }

    public int compare(int a, int b) {
        if (!isBelow(a, SLOTS) || !isBelow(b, SLOTS)) {
            return REFUSED;
        }
        Thing first = slots[a];
        Thing second = slots[b];
        if (first == null || second == null) {
            return NULL;
        }
        if (!isOfType(first, TYPE_BASE) || !isOfType(second, TYPE_BASE)) {
            return CAST;
        }
        return wentWith(first.n < second.n ? -1 : first.n > second.n ? 1 : 0);
    }

    public int flow(int program, int a, int b) {
        switch (program) {
            case 0:
                return wentWith(divideNoting(a, b));
            case 1:
                return wentWith(countTurns(a & 7, b & 7));
            case 2:
                return wentWith(openWorkClose(a, b));
            case 3:
                return wentWith(workByWord(a, b & 3));
            case 4:
                return wentWith(a + (a + 1) * b + b);
            case 5:
                return squareInRow(a, b);
            case 6:
                return wentWith(putAtToldPlace(a & 1));
            default:
                return REFUSED;
        }
    }

    public int number(int which, int a, int b) {
        switch (which) {
            case 0:
                return wentWith((int) (float) a);
            case 1:
                return wentWith(quotientOfDoubles(a, b));
            case 2:
                return wentWith((byte) a * (char) b);
            case 3:
                return wentWith((a >> b) + (a >>> b) + (a << b));
            case 4:
                return b == 0 ? ZERO : wentWith(a % b);
            case 5:
                return wentWith((short) ((short) a + b));
            case 6:
                return wentWith((int) ((long) a * b >> 16));
            case 7:
                return wentWith((float) a == (float) b ? 1 : 0);
            case 8:
                return wentWith((int) (a * 0.75));
            case 9:
                return wentWith(decimalLength(a) + 1 + decimalLength(b));
            default:
                return REFUSED;
        }
    }

    public int events() {
        return eventCount;
    }

    public int event(int i) {
        if (!isBelow(i, EVENTS_KEPT) || i >= eventCount) {
            return REFUSED;
        }
        return lastEvents[(eventCount - 1 - i) & EVENT_MASK];
    }

    private static boolean isBelow(int number, int bound) {
        return number >= 0 && number < bound;
    }

    // Told without start + n, which could wrap.
    private static boolean isStretch(int start, int n) {
        return start >= 0 && n >= 0 && n <= PLACES && start <= PLACES - n;
    }

    private static boolean holds(int types, int type) {
        return (types & 1 << type) != 0;
    }

    private static boolean isOfType(Thing thing, int type) {
        return holds(TYPES_OF_KIND[thing.kind], type);
    }

    private int wentWith(int answer) {
        lastValue = answer;
        return VALUE;
    }

    // A mask, not a rest, so that no count, however far it went, tells a place outside the row.
    private void note(int number) {
        lastEvents[eventCount & EVENT_MASK] = number;
        eventCount++;
    }

    private int putRepeater(int slot, Thing source) {
        if (source == null) {
            return NULL;
        }
        if (source.repeaters >= MOST_REPEATERS) {
            return REFUSED;
        }
        slots[slot] = new Thing(KIND_REPEATER, 0, source);
        return VALUE;
    }

    private Thing newThing(int kind, int n) {
        switch (kind) {
            case KIND_WREN:
                return wren;
            case KIND_OWL:
                return owl;
            case KIND_HOUND:
            case KIND_CAT:
            case KIND_KITTEN:
            case KIND_STRAY:
                return newBase(kind, n);
            default:
                return new Thing(kind, n, null);
        }
    }

    // The first EVENT comes before the kind's own numbers are set, so a HOUND's tells no BONUS.
    private Thing newBase(int kind, int n) {
        Thing thing = new Thing(kind, n, null);
        note(seedOf(thing));
        if (kind == KIND_HOUND) {
            thing.bonus = 4;
        }
        if (kind == KIND_STRAY) {
            thing.extra = n + 1;
            note(thing.extra);
        }
        return thing;
    }

    private int putInRow(int row, int place, Thing thing) {
        if (thing != null && !isOfType(thing, TYPE_OF_ROW[row])) {
            return STORE;
        }
        places[row * PLACES + place] = thing;
        return VALUE;
    }

    private int answerOf(Thing thing, int type, int member, int x) {
        switch (member) {
            case MEMBER_CALL:
                return callOf(thing, x);
            case MEMBER_TWICE:
                return twiceOf(thing, x);
            case MEMBER_VOLUME:
                return volumeOf(thing, x);
            case MEMBER_WEIGHT:
                return weightOf(thing);
            case MEMBER_DESCRIBE:
                return weightOf(thing) + 100 * markOf(TYPE_BASE);
            case MEMBER_OPEN:
                return x + 100;
            case MEMBER_MARK:
                return markOf(type);
            case MEMBER_SEED:
                return seedOf(thing);
            case MEMBER_SIZE:
                return thing.n;
            default:
                return type == TYPE_HOUND ? weightAsBase(thing) : weightAsCat(thing);
        }
    }

    private int callOf(Thing thing, int x) {
        Thing caller = thing;
        for (int i = 0; i < MOST_REPEATERS && caller.source != null; i++) {
            caller = caller.source;
        }
        switch (caller.kind) {
            case KIND_HOUND:
            case KIND_WREN:
                return x + caller.n;
            case KIND_CAT:
            case KIND_STRAY:
                return x - caller.n;
            case KIND_KITTEN:
                return 2 * (x - caller.n);
            case KIND_OWL:
            case KIND_TIMES:
                return x * caller.n;
            case KIND_SHADOW:
                shadowCalls++;
                return x + caller.n + shadowCalls;
            default:
                return x;
        }
    }

    private int twiceOf(Thing thing, int x) {
        switch (thing.kind) {
            case KIND_HOUND:
            case KIND_WREN:
            case KIND_OWL:
                return twiceAsLoud(thing, x);
            case KIND_CAT:
            case KIND_STRAY:
                return twiceAsSoft(thing, x);
            case KIND_KITTEN:
                return twiceAsLoud(thing, x) + twiceAsSoft(thing, x);
            default:
                return callOf(thing, callOf(thing, x));
        }
    }

    private int twiceAsLoud(Thing thing, int x) {
        return 2 * callOf(thing, x);
    }

    private int twiceAsSoft(Thing thing, int x) {
        return callOf(thing, x) - 1;
    }

    private static int volumeOf(Thing thing, int x) {
        switch (thing.kind) {
            case KIND_CAT:
            case KIND_STRAY:
                return x - 10;
            case KIND_KITTEN:
                return (x + 10) * 3;
            default:
                return x + 10;
        }
    }

    private static int weightOf(Thing thing) {
        switch (thing.kind) {
            case KIND_HOUND:
                return weightAsBase(thing) + 1;
            case KIND_KITTEN:
                return 2 * weightAsCat(thing);
            case KIND_STRAY:
                return weightAsCat(thing) + thing.extra;
            default:
                return weightAsCat(thing);
        }
    }

    private static int weightAsBase(Thing thing) {
        return 2 * thing.n;
    }

    private static int weightAsCat(Thing thing) {
        return 3 * thing.n;
    }

    private static int seedOf(Thing thing) {
        switch (thing.kind) {
            case KIND_HOUND:
                return 20 + thing.bonus;
            case KIND_KITTEN:
                return 30 + thing.n;
            default:
                return 1;
        }
    }

    private static int markOf(int type) {
        switch (type) {
            case TYPE_HOUND:
                return 2;
            case TYPE_CAT:
            case TYPE_KITTEN:
                return 3;
            default:
                return 1;
        }
    }

    private static int toneOf(int type) {
        return type == TYPE_LOUD || type == TYPE_BIRD ? 7 : 5;
    }

    private static int rankOf(int type, int x) {
        switch (type) {
            case TYPE_HOUND:
                return x + 2;
            case TYPE_KITTEN:
                return x + 6;
            default:
                return x + 1;
        }
    }

    private int divideNoting(int a, int b) {
        int quotient = b == 0 ? -1 : a / b;
        note(1);
        return quotient;
    }

    // A turn that is both left and the ending one is left: that is looked at first.
    private int countTurns(int left, int ending) {
        int counted = 0;
        boolean ended = false;
        for (int i = 1; i <= 5 && !ended; i++) {
            if (i != left) {
                ended = i == ending;
                counted += ended ? 0 : 1;
            }
            note(i);
        }
        return counted;
    }

    private int openWorkClose(int a, int b) {
        int outcome = 0;
        note(10);
        note(11);
        if ((a & 1) != 0) {
            outcome = withFailure(outcome, 1);
        } else {
            note(12);
            if ((a & 2) != 0) {
                outcome = withFailure(outcome, 2);
            }
            note(21);
            if ((b & 1) != 0) {
                outcome = withFailure(outcome, 3);
            }
        }
        note(20);
        if ((b & 2) != 0) {
            outcome = withFailure(outcome, 4);
        }
        return outcome;
    }

    // The first failure stands in the hundreds, those put by are counted below.
    private static int withFailure(int outcome, int failure) {
        return outcome == 0 ? 100 * failure : outcome + 1;
    }

    private static int workByWord(int a, int word) {
        switch (word) {
            case 0:
                return a + 1;
            case 1:
                return a + 2 + 1;
            case 2:
                return a + 4 + 2 + 1;
            default:
                return -a;
        }
    }

    // The row itself is never made: all its other places are 0, so the sum is the one square.
    private int squareInRow(int length, int place) {
        if (length > LONGEST_ROW) {
            return REFUSED;
        }
        if (length < 0) {
            return SIZE;
        }
        if (!isBelow(place, length)) {
            return INDEX;
        }
        return wentWith(place * place);
    }

    // The place is told before i becomes 2, so what is put is 2 * 10 + 5 in either place.
    private static int putAtToldPlace(int place) {
        int first = place == 0 ? 25 : 7;
        int second = place == 1 ? 25 : 8;
        return first * 10000 + second * 100 + 9;
    }

    // Division by 0 is told apart because the language rules allow no NaN.
    private static int quotientOfDoubles(int a, int b) {
        if (b == 0) {
            return a == 0 ? 0 : a > 0 ? GREATEST_INT : LEAST_INT;
        }
        return (int) ((double) a / (double) b);
    }

    private static int decimalLength(int number) {
        int length = number < 0 ? 2 : 1;
        int rest = number / 10;
        for (int i = 1; i < MOST_DIGITS && rest != 0; i++) {
            length++;
            rest /= 10;
        }
        return length;
    }
}
