import java.lang.invoke.MethodHandle;
import java.lang.invoke.MethodHandles;
import java.lang.invoke.MethodType;
import java.lang.reflect.Field;
import java.lang.reflect.InvocationTargetException;
import java.lang.reflect.Method;
import java.util.ArrayList;
import java.util.List;
import java.util.function.IntUnaryOperator;

/**
 * A second writing of the document's family, with what Java itself has: real classes, defaults in
 * conflict, hidden fields, reflection, handles, arrays that check what is stored. The tests hold
 * FamilyProbes against it.
 */
final class RealFamily {
    static final int REFUSED = -1;
    static final int VALUE = 0;
    static final int CAST = 1;
    static final int NULL = 2;
    static final int STORE = 3;
    static final int INDEX = 4;
    static final int ZERO = 5;
    static final int SIZE = 6;

    interface Voice {
        int TONE = Integer.parseInt("5");

        int call(int x);

        default int twice(int x) {
            return call(call(x));
        }
    }

    interface Loud extends Voice {
        int TONE = Integer.parseInt("7");

        @Override
        default int twice(int x) {
            return 2 * call(x);
        }

        default int volume(int x) {
            return x + 10;
        }
    }

    interface Soft extends Voice {
        @Override
        default int twice(int x) {
            return call(x) - 1;
        }

        default int volume(int x) {
            return x - 10;
        }
    }

    abstract static class Base implements Voice {
        final List<Integer> log;
        final int n;
        int mark = 1;

        Base(List<Integer> log, int n) {
            this.log = log;
            this.n = n;
            log.add(seed());
        }

        int weight() {
            return 2 * n;
        }

        int describe() {
            return weight() + 100 * mark;
        }

        private int secret(int x) {
            return x + 100;
        }

        int open(int x) {
            return secret(x);
        }

        static int rank(int x) {
            return x + 1;
        }

        int seed() {
            return 1;
        }

        int size() {
            return n;
        }
    }

    static class Hound extends Base implements Loud {
        int mark = 2;
        int bonus = 4;

        Hound(List<Integer> log, int n) {
            super(log, n);
        }

        @Override
        public int call(int x) {
            return x + n;
        }

        @Override
        int weight() {
            return super.weight() + 1;
        }

        int over() {
            return super.weight();
        }

        int secret(int x) {
            return x + 200;
        }

        static int rank(int x) {
            return x + 2;
        }

        @Override
        int seed() {
            return 20 + bonus;
        }
    }

    static class Cat extends Base implements Soft {
        int mark = 3;

        Cat(List<Integer> log, int n) {
            super(log, n);
        }

        @Override
        public int call(int x) {
            return x - n;
        }

        @Override
        int weight() {
            return 3 * n;
        }
    }

    static class Kitten extends Cat implements Loud {
        Kitten(List<Integer> log, int n) {
            super(log, n);
        }

        @Override
        public int call(int x) {
            return 2 * super.call(x);
        }

        @Override
        public int twice(int x) {
            return Loud.super.twice(x) + super.twice(x);
        }

        @Override
        public int volume(int x) {
            return Loud.super.volume(x) * 3;
        }

        @Override
        int weight() {
            return 2 * super.weight();
        }

        int over() {
            return super.weight();
        }

        static int rank(int x) {
            return x + 6;
        }

        @Override
        int seed() {
            return 30 + n;
        }
    }

    static class Stray extends Cat {
        final int extra;

        Stray(List<Integer> log, int n) {
            super(log, n);
            extra = n + 1;
            log.add(extra);
        }

        @Override
        int weight() {
            return super.weight() + extra;
        }
    }

    record Echo(int size) implements Voice {
        @Override
        public int call(int x) {
            return x;
        }
    }

    enum Bird implements Loud {
        WREN(2) {
            @Override
            public int call(int x) {
                return x + n;
            }
        },
        OWL(9) {
            @Override
            public int call(int x) {
                return n * x;
            }
        };

        final int n;

        Bird(int n) {
            this.n = n;
        }
    }

    static final class Repeater implements Voice {
        final Voice of;

        Repeater(Voice of) {
            this.of = of;
        }

        @Override
        public int call(int x) {
            return of.call(x);
        }

        static boolean isDeep(Voice voice, int levels) {
            return levels == 0 || voice instanceof Repeater r && isDeep(r.of, levels - 1);
        }
    }

    static final class Box<T extends Base> implements Comparable<Box<T>> {
        final T held;

        Box(T held) {
            this.held = held;
        }

        @Override
        public int compareTo(Box<T> other) {
            return Integer.compare(held.size(), other.held.size());
        }
    }

    static final class Failure extends Exception {
        private static final long serialVersionUID = 1L;
        final int which;

        Failure(int which) {
            this.which = which;
        }
    }

    final class Opened implements AutoCloseable {
        final int number;
        final boolean closingFails;

        Opened(int number, boolean openingFails, boolean closingFails) throws Failure {
            log.add(10 + number);
            this.number = number;
            this.closingFails = closingFails;
            if (openingFails) {
                throw new Failure(1);
            }
        }

        @Override
        public void close() throws Failure {
            log.add(20 + number);
            if (closingFails) {
                throw new Failure(4 - number);
            }
        }
    }

    private static final Class<?>[] TYPES = {
        Voice.class, Loud.class, Soft.class, Base.class, Hound.class, Cat.class, Kitten.class,
        Echo.class, Bird.class
    };
    private static final String[] MEMBERS = {
        "call", "twice", "volume", "weight", "describe", "open", "mark", "TONE", "rank", "seed",
        "size", "over"
    };
    private static final String WITH_X = "call twice volume open rank";

    private final List<Integer> log = new ArrayList<>();
    private final Voice[] slots = new Voice[8];
    private final Voice[][] rows = {new Voice[4], new Base[4], new Cat[4], new Hound[4]};
    private int shadowCalls;
    private int value;

    int make(int slot, int kind, int n) {
        if (slot < 0 || slot > 7 || kind < 0 || kind > 9) {
            return REFUSED;
        }
        Voice source = slots[n & 7];
        if (kind == 8 && source == null) {
            return NULL;
        }
        if (kind == 8 && Repeater.isDeep(source, 3)) {
            return REFUSED;
        }
        slots[slot] = switch (kind) {
            case 0 -> new Hound(log, n);
            case 1 -> new Cat(log, n);
            case 2 -> new Kitten(log, n);
            case 3 -> new Echo(n);
            case 4 -> Bird.WREN;
            case 5 -> Bird.OWL;
            case 6 -> new Voice() {
                @Override
                public int call(int x) {
                    return x + n + ++shadowCalls;
                }
            };
            case 7 -> x -> x * n;
            case 8 -> new Repeater(source);
            default -> new Stray(log, n);
        };
        return VALUE;
    }

    int drop(int slot) {
        if (slot < 0 || slot > 7) {
            return REFUSED;
        }
        Voice was = slots[slot];
        slots[slot] = null;
        return was == null ? NULL : VALUE;
    }

    int probe(int slot, int type, int member, int x, int manner) {
        if (slot < 0 || slot > 7 || type < 0 || type > 8 || member < 0 || member > 11
                || manner < 0 || manner > 3 || !has(type, member)) {
            return REFUSED;
        }
        boolean needsNone = member == 7 || member == 8;
        Voice thing = slots[slot];
        if (thing == null && !needsNone) {
            return NULL;
        }
        try {
            Object it = needsNone ? null : TYPES[type].cast(thing);
            value = switch (manner) {
                case 0 -> plain(it, type, member, x);
                case 1 -> byReflection(it, type, member, x);
                case 2 -> byHandle(it, type, member, x);
                default -> bound(it, type, member).applyAsInt(x);
            };
            return VALUE;
        } catch (ClassCastException e) {
            return CAST;
        }
    }

    // SIZE is hidden by the document, not by the language, from the types below BASE.
    private static boolean has(int type, int member) {
        boolean isBase = Base.class.isAssignableFrom(TYPES[type]);
        return switch (member) {
            case 0, 1 -> true;
            case 2 -> findMethod(TYPES[type], "volume") != null;
            case 7 -> TYPES[type].isInterface() || type == 8;
            case 10 -> type == 3 || type == 7;
            case 11 -> findMethod(TYPES[type], "over") != null;
            default -> isBase;
        };
    }

    private static int plain(Object it, int type, int member, int x) {
        return switch (member) {
            case 0 -> ((Voice) it).call(x);
            case 1 -> ((Voice) it).twice(x);
            case 2 -> it instanceof Loud loud ? loud.volume(x) : ((Soft) it).volume(x);
            case 3 -> ((Base) it).weight();
            case 4 -> ((Base) it).describe();
            case 5 -> ((Base) it).open(x);
            case 6 -> plainMark(it, type);
            case 7 -> type == 0 ? Voice.TONE : type == 1 ? Loud.TONE
                    : type == 2 ? Soft.TONE : Bird.TONE;
            case 8 -> type == 3 ? Base.rank(x) : type == 4 ? Hound.rank(x)
                    : type == 5 ? Cat.rank(x) : Kitten.rank(x);
            case 9 -> ((Base) it).seed();
            case 10 -> type == 3 ? ((Base) it).size() : ((Echo) it).size();
            default -> type == 4 ? ((Hound) it).over() : ((Kitten) it).over();
        };
    }

    private static int plainMark(Object it, int type) {
        return type == 3 ? ((Base) it).mark : type == 4 ? ((Hound) it).mark
                : type == 5 ? ((Cat) it).mark : ((Kitten) it).mark;
    }

    private static Method findMethod(Class<?> type, String name) {
        for (Class<?> c = type; c != null; c = c.getSuperclass()) {
            for (Method method : c.getDeclaredMethods()) {
                if (method.getName().equals(name) && !method.isBridge()) {
                    return method;
                }
            }
        }
        for (Method method : type.getMethods()) {
            if (method.getName().equals(name) && !method.isBridge()) {
                return method;
            }
        }
        return null;
    }

    private static Field findField(Class<?> type, String name) throws NoSuchFieldException {
        for (Class<?> c = type; c != null; c = c.getSuperclass()) {
            for (Field field : c.getDeclaredFields()) {
                if (field.getName().equals(name)) {
                    return field;
                }
            }
        }
        return type.getField(name);
    }

    private static int byReflection(Object it, int type, int member, int x) {
        try {
            if (member == 6 || member == 7) {
                return findField(TYPES[type], MEMBERS[member]).getInt(it);
            }
            Method method = findMethod(TYPES[type], MEMBERS[member]);
            return (Integer) (WITH_X.contains(MEMBERS[member])
                    ? method.invoke(it, x) : method.invoke(it));
        } catch (NoSuchFieldException | IllegalAccessException | InvocationTargetException e) {
            throw new IllegalStateException(e);
        }
    }

    private static MethodHandle handle(int type, int member) throws ReflectiveOperationException {
        MethodHandles.Lookup lookup = MethodHandles.lookup();
        Class<?> in = TYPES[type];
        String name = MEMBERS[member];
        MethodType shape = WITH_X.contains(name)
                ? MethodType.methodType(int.class, int.class) : MethodType.methodType(int.class);
        return switch (member) {
            case 6 -> lookup.findGetter(in, name, int.class);
            case 7 -> lookup.findStaticGetter(in, name, int.class);
            case 8 -> lookup.findStatic(in, name, shape);
            case 11 -> MethodHandles.privateLookupIn(in, lookup)
                    .findSpecial(in.getSuperclass(), "weight", shape, in);
            default -> lookup.findVirtual(in, name, shape);
        };
    }

    private static int byHandle(Object it, int type, int member, int x) {
        try {
            MethodHandle handle = handle(type, member);
            boolean withX = WITH_X.contains(MEMBERS[member]);
            if (it == null) {
                return (Integer) (withX ? handle.invoke(x) : handle.invoke());
            }
            return (Integer) (withX ? handle.invoke(it, x) : handle.invoke(it));
        } catch (Throwable e) {
            throw new IllegalStateException(e);
        }
    }

    private static IntUnaryOperator bound(Object it, int type, int member) {
        if (member == 0) {
            return ((Voice) it)::call;
        }
        if (member == 1) {
            return ((Voice) it)::twice;
        }
        if (member == 5) {
            return ((Base) it)::open;
        }
        if (it == null) {
            return y -> byHandle(null, type, member, y);
        }
        return y -> {
            try {
                MethodHandle tied = handle(type, member).bindTo(it);
                boolean withX = WITH_X.contains(MEMBERS[member]);
                return (Integer) (withX ? tied.invoke(y) : tied.invoke());
            } catch (Throwable e) {
                throw new IllegalStateException(e);
            }
        };
    }

    int value() {
        return value;
    }

    boolean is(int slot, int type) {
        return slot >= 0 && slot < 8 && type >= 0 && type < 9
                && TYPES[type].isInstance(slots[slot]);
    }

    boolean same(int a, int b) {
        return a >= 0 && a < 8 && b >= 0 && b < 8 && slots[a] == slots[b];
    }

    int store(int row, int place, int slot) {
        if (row < 0 || row > 3 || slot < 0 || slot > 7) {
            return REFUSED;
        }
        try {
            rows[row][place] = slots[slot];
            return VALUE;
        } catch (ArrayIndexOutOfBoundsException e) {
            return INDEX;
        } catch (ArrayStoreException e) {
            return STORE;
        }
    }

    int load(int row, int place, int slot) {
        if (row < 0 || row > 3 || slot < 0 || slot > 7) {
            return REFUSED;
        }
        try {
            slots[slot] = rows[row][place];
            return VALUE;
        } catch (ArrayIndexOutOfBoundsException e) {
            return INDEX;
        }
    }

    int copy(int from, int at, int to, int there, int n) {
        if (from < 0 || from > 3 || to < 0 || to > 3) {
            return REFUSED;
        }
        try {
            System.arraycopy(rows[from], at, rows[to], there, n);
            return VALUE;
        } catch (IndexOutOfBoundsException e) {
            return INDEX;
        } catch (ArrayStoreException e) {
            return STORE;
        }
    }

    int compare(int a, int b) {
        if (a < 0 || a > 7 || b < 0 || b > 7) {
            return REFUSED;
        }
        if (slots[a] == null || slots[b] == null) {
            return NULL;
        }
        try {
            value = new Box<>((Base) slots[a]).compareTo(new Box<>((Base) slots[b]));
            return VALUE;
        } catch (ClassCastException e) {
            return CAST;
        }
    }

    int flow(int program, int a, int b) {
        try {
            int answer = switch (program) {
                case 0 -> divided(a, b);
                case 1 -> turns(a & 7, b & 7);
                case 2 -> closed(a, b);
                case 3 -> worded(a, new String[] {"one", "two", "four", "six"}[b & 3]);
                case 4 -> summed(a, b);
                case 5 -> squared(a, b);
                case 6 -> placed(a & 1);
                default -> throw new IllegalArgumentException();
            };
            value = answer;
            return VALUE;
        } catch (IllegalArgumentException e) {
            return REFUSED;
        } catch (NegativeArraySizeException e) {
            return SIZE;
        } catch (ArrayIndexOutOfBoundsException e) {
            return INDEX;
        }
    }

    private int divided(int a, int b) {
        try {
            return a / b;
        } catch (ArithmeticException e) {
            return -1;
        } finally {
            log.add(1);
        }
    }

    private int turns(int left, int ending) {
        int counted = 0;
        for (int i = 1; i <= 5; i++) {
            try {
                if (i == left) {
                    continue;
                }
                if (i == ending) {
                    break;
                }
                counted++;
            } finally {
                log.add(i);
            }
        }
        return counted;
    }

    @SuppressWarnings("try")
    private int closed(int a, int b) {
        try (Opened first = new Opened(0, false, (b & 2) != 0);
                Opened second = new Opened(1, (a & 1) != 0, (b & 1) != 0)) {
            log.add(12);
            if ((a & 2) != 0) {
                throw new Failure(2);
            }
            return 0;
        } catch (Failure e) {
            return 100 * e.which + e.getSuppressed().length;
        }
    }

    @SuppressWarnings("fallthrough")
    private static int worded(int a, String word) {
        switch (word) {
            case "four":
                a += 4;
            case "two":
                a += 2;
            case "one":
                a += 1;
                break;
            default:
                a = -a;
        }
        return a;
    }

    private static int summed(int a, int b) {
        int i = a;
        return i++ + i * (i = b) + i;
    }

    private static int squared(int a, int b) {
        if (a > 1000) {
            throw new IllegalArgumentException();
        }
        int[] row = new int[a];
        row[b] = b * b;
        int sum = 0;
        for (int each : row) {
            sum += each;
        }
        return sum;
    }

    private static int placed(int told) {
        int[] row = {7, 8, 9};
        int i = told;
        row[i] = (i = 2) * 10 + 5;
        return row[0] * 10000 + row[1] * 100 + row[2];
    }

    int number(int which, int a, int b) {
        try {
            int answer = switch (which) {
                case 0 -> (int) (float) a;
                case 1 -> (int) ((double) a / b);
                case 2 -> (byte) a * (char) b;
                case 3 -> (a >> b) + (a >>> b) + (a << b);
                case 4 -> a % b;
                case 5 -> shortSum((short) a, b);
                case 6 -> (int) ((long) a * b >> 16);
                case 7 -> Float.compare(a, b) == 0 ? 1 : 0;
                case 8 -> (int) (a * 0.75);
                case 9 -> (a + " " + b).length();
                default -> throw new IllegalArgumentException();
            };
            value = answer;
            return VALUE;
        } catch (IllegalArgumentException e) {
            return REFUSED;
        } catch (ArithmeticException e) {
            return ZERO;
        }
    }

    private static int shortSum(short s, int b) {
        s += b;
        return s;
    }

    int events() {
        return log.size();
    }

    int event(int i) {
        return i < 0 || i > 15 || i >= log.size() ? REFUSED : log.get(log.size() - 1 - i);
    }
}
