import static java.lang.invoke.MethodHandles.constant;
import static java.lang.invoke.MethodHandles.dropArguments;
import static java.lang.invoke.MethodHandles.filterArguments;
import static java.lang.invoke.MethodHandles.filterReturnValue;
import static java.lang.invoke.MethodHandles.foldArguments;
import static java.lang.invoke.MethodHandles.guardWithTest;
import static java.lang.invoke.MethodHandles.insertArguments;

import java.lang.invoke.MethodHandle;
import java.lang.invoke.MethodHandles;
import java.lang.invoke.MethodType;
import java.lang.invoke.WrongMethodTypeException;
import java.util.ArrayList;
import java.util.Arrays;
import java.util.List;
import java.util.Random;

/**
 * The same HANDLES put together by java.lang.invoke, which has the document's forms under other names: which VALUE goes
 * where, what is done first and how a VALUE adapts is then said by Java's library, not by a reading of ours. What it
 * cannot say: SITES, most refusals, and a ROW as BOX, which Java's Object would take.
 */
public final class InvokeRunsTest {
    private static final int RUNS = 2500, MOST_MADE = 45, TRIES = 600;
    /** An object is good for 512 calls; one round takes fewer than 30. */
    private static final int CALLS = 512 - 30;
    private static final int LONG = 1, BOX = 2, ROW = 3, VOID = 4;
    private static final int[] ORDERS = {0, 10, 12, 21, 102, 120, 201, 210, 123, 3210, 2031, 43210, 30214, 543210, 420135};
    private static final List<Class<?>> CLASSES = List.of(int.class, long.class, Object.class, int[].class, void.class);
    private static final int[] formsDone = new int[13];
    private static final int[] failures = new int[200];

    static final class Failed extends RuntimeException {
        final int by;

        Failed(int by) {
            super(null, null, false, false);
            this.by = by;
        }
    }

    private final MethodHandles.Lookup lookup = MethodHandles.lookup();
    private final Random random;
    private final HandleModels mine = new HandleModels();
    private final List<MethodHandle> handles = new ArrayList<>();
    private final List<int[]> rows = new ArrayList<>();
    private final List<Object> hand = new ArrayList<>();
    private final List<String> calls = new ArrayList<>();
    private int steps = 0;
    private int counted = 0;
    private int used = 0;
    private boolean wrong = false;

    private InvokeRunsTest(long seed) {
        random = new Random(seed);
    }

    public static void main(String[] args) throws Exception {
        int bad = 0;
        for (int seed = 0; seed < RUNS && bad < 3; seed++) {
            bad += new InvokeRunsTest(seed).play() ? 0 : 1;
        }
        for (int form = 0; form <= 12 && bad == 0; form++) {
            bad += formsDone[form] > 0 ? 0 : 1;
        }
        for (int by : new int[] {0, 1, 2, 3, 4, 5, 6, 7, 9, 10}) {
            bad += failures[by] > 0 ? 0 : 1;
        }
        System.out.println(bad == 0 ? RUNS + " runs are as java.lang.invoke has them"
            : "not as java.lang.invoke has them; forms made " + Arrays.toString(formsDone)
                + ", failed by " + Arrays.toString(Arrays.copyOf(failures, 11)));
        if (bad != 0) {
            System.exit(1);
        }
    }

    private boolean play() throws Exception {
        // In some runs the 61st ROW is near.
        for (int k = random.nextInt(8) == 0 ? 59 : 0; k >= 0; k--) {
            makeRow(random.nextInt(3));
        }
        for (int form = 0; form <= 13; form++) {
            makePlain(form);
        }
        while (used < CALLS && !wrong) {
            if (random.nextInt(3) == 0 && handles.size() < MOST_MADE) {
                makeOther();
            } else if (random.nextInt(12) == 0) {
                makeRow(random.nextInt(4));
            } else if (random.nextInt(12) == 0) {
                makePlain(random.nextInt(14));
            } else {
                runOne();
            }
        }
        if (wrong) {
            System.out.println(String.join("\n", calls));
        }
        return !wrong;
    }

    private void same(String call, long got, long want) {
        used++;
        calls.add(call + " = " + want);
        if (got != want) {
            wrong = true;
            calls.add("but answered " + got);
        }
    }

    // ---- PLAIN ones

    private void makeRow(int length) {
        if (rows.size() < 60) {
            same("row(" + length + ")", mine.row(length), rows.size());
            rows.add(new int[length]);
        }
    }

    private void makePlain(int form) throws Exception {
        int a = random.nextInt(form == 1 ? 4 : 5);
        int b = form == 12 ? random.nextInt(100) : a == ROW ? random.nextInt(rows.size()) : random.nextInt(random.nextInt(6) == 0 ? 80 : 14) - 3;
        if (handles.size() < MOST_MADE) {
            same("plain(" + form + ", " + a + ", " + b + ")", mine.plain(form, a, b), handles.size());
            handles.add(stepped(plain(form, a, b)));
        }
    }

    private MethodHandle plain(int form, int a, int b) throws Exception {
        switch (form) {
            case 0: return a == VOID ? MethodHandles.zero(void.class) : constant(CLASSES.get(a), fixed(a, b));
            case 1: return MethodHandles.identity(CLASSES.get(a));
            case 2: return lookup.findStatic(Integer.class, "sum", type("III"));
            case 3: return own("less", "III");
            case 4: return own("times", "III");
            case 5: return own("by", "III");
            case 6: return own("below", "III");
            case 7: return lookup.findStatic(Long.class, "sum", type("JJJ"));
            case 8: return MethodHandles.arrayElementGetter(int[].class);
            case 9: return MethodHandles.arrayElementSetter(int[].class);
            case 10: return MethodHandles.arrayLength(int[].class);
            case 11: return lookup.bind(this, "zeros", MethodType.methodType(int[].class, int.class));
            case 12: return MethodHandles.throwException(CLASSES.get(a), Failed.class).bindTo(new Failed(100 + b));
            default: return lookup.bind(this, "count", MethodType.methodType(int.class));
        }
    }

    private Object fixed(int a, int b) {
        return a == LONG ? (Object) (long) b : a == ROW ? rows.get(b) : (Object) b;
    }

    /** What is taken, and last what is given, each by its letter in a class file. */
    private static MethodType type(String letters) {
        int last = letters.length() - 1;
        return MethodType.fromMethodDescriptorString("(" + letters.substring(0, last) + ")" + letters.charAt(last), null);
    }

    private MethodHandle own(String name, String letters) throws Exception {
        return lookup.findStatic(InvokeRunsTest.class, name, type(letters));
    }

    static int less(int p, int q) {
        return p - q;
    }

    static int times(int p, int q) {
        return p * q;
    }

    static int by(int p, int q) {
        return p / q;
    }

    static int below(int p, int q) {
        return p < q ? 1 : 0;
    }

    static boolean isNotZero(int p) {
        return p != 0;
    }

    int[] zeros(int length) {
        if (length > 20) {
            throw new IllegalArgumentException();
        }
        return kept(new int[length]);
    }

    int[] kept(int[] row) {
        if (rows.size() == 60) {
            throw new Failed(10);
        }
        rows.add(row);
        return row;
    }

    int count() {
        return ++counted;
    }

    void step() {
        if (++steps > 80) {
            throw new Failed(9);
        }
    }

    private MethodHandle stepped(MethodHandle raw) throws Exception {
        return foldArguments(raw, lookup.bind(this, "step", type("V")));
    }

    // ---- OTHERS

    private void makeOther() throws Exception {
        int form = random.nextInt(13);
        for (int tries = 0; tries < TRIES; tries++) {
            int[] p = parts(form);
            MethodHandle made = other(p);
            // Of these forms Java refuses just what the document does; most refusals are passed over, to make more.
            boolean refusalIsSaid = form == 3 || form == 5 || form == 6 || form == 12;
            if (made != null || refusalIsSaid && random.nextInt(600) == 0) {
                int want = made == null ? HandleModels.STATE : handles.size();
                same("other" + Arrays.toString(p), mine.other(p[0], p[1], p[2], p[3], p[4], p[5]), want);
                keepMade(form, made);
                return;
            }
        }
    }

    private void keepMade(int form, MethodHandle made) throws Exception {
        if (made != null && !wrong) {
            formsDone[form]++;
            handles.add(stepped(made));
            sameTypes(handles.size() - 1);
        }
    }

    private void sameTypes(int h) {
        MethodType type = handles.get(h).type();
        same("about(" + h + ", 0)", mine.about(h, 0), type.parameterCount());
        for (int k = 0; k < type.parameterCount(); k++) {
            same("about(" + h + ", " + (k + 1) + ")", mine.about(h, k + 1), CLASSES.indexOf(type.parameterType(k)));
        }
        same("about(" + h + ", 7)", mine.about(h, 7), CLASSES.indexOf(type.returnType()));
    }

    /** Form, h, x, y, a and b; a is a place, an order or a number, as the form has it. */
    private int[] parts(int form) {
        int h = random.nextInt(handles.size());
        int takes = handles.get(h).type().parameterCount();
        int a = random.nextInt(7);
        if (form == 0 || form == 1 || form == 4) {
            a = takes == 0 ? 0 : random.nextInt(takes);
        } else if (form == 2) {
            a = ORDERS[random.nextInt(ORDERS.length)];
        } else if (form == 10) {
            a = 1 + random.nextInt(3);
        } else if (form == 11) {
            a = random.nextInt(4);
        }
        return new int[] {form, h, random.nextInt(handles.size()), random.nextInt(handles.size()), a, random.nextInt(4)};
    }

    /** Null where Java's library refuses, or where the document is stricter than it. */
    private MethodHandle other(int[] p) throws Exception {
        MethodHandle h = handles.get(p[1]);
        MethodHandle x = handles.get(p[2]);
        MethodHandle y = handles.get(p[3]);
        MethodType taken = h.type();
        int takes = taken.parameterCount();
        int a = p[4];
        try {
            MethodHandle made;
            switch (p[0]) {
                case 0: made = a < takes && !hand.isEmpty() ? bound(h, a) : null; break;
                case 1: made = dropArguments(h, a, CLASSES.get(p[5])); break;
                case 2: made = moved(h, a); break;
                case 3: made = foldArguments(h, x); break;
                case 4: made = a < takes && x.type().parameterCount() == 1 ? filterArguments(h, a, x) : null; break;
                case 5: made = filterReturnValue(h, x); break;
                case 6: made = guardWithTest(filterReturnValue(h, own("isNotZero", "IZ")), x, y); break;
                case 7: made = x.type().equals(taken.insertParameterTypes(0, int.class)) ? caught(h, x, a) : null; break;
                case 8: made = x.type().equals(endType(taken)) ? ended(h, x) : null; break;
                case 9: made = isRound(taken, x.type(), y.type()) ? MethodHandles.countedLoop(h, y, x) : null; break;
                case 10: made = endsInInts(taken, a) ? h.asSpreader(int[].class, a) : null; break;
                case 11: made = takes > 0 && taken.parameterType(takes - 1) == int[].class ? gathered(h, a) : null; break;
                default: made = hasRowAsBox(x.type(), taken) ? null : h.asType(x.type()); break;
            }
            return made != null && made.type().parameterCount() <= 6 ? made : null;
        } catch (IllegalArgumentException | WrongMethodTypeException refused) {
            return null;
        }
    }

    private MethodHandle bound(MethodHandle h, int a) {
        Class<?> wanted = h.type().parameterType(a);
        Object v = hand.get(0);
        if (v instanceof int[] && wanted == Object.class) {
            return null;
        }
        try {
            MethodHandle first = constant(classOf(v, wanted), v).asType(MethodType.methodType(wanted));
            return insertArguments(h, a, first.invokeWithArguments());
        } catch (Throwable fails) {
            return null;
        }
    }

    private static MethodHandle moved(MethodHandle h, int order) {
        int takes = h.type().parameterCount();
        String digits = takes == 0 ? "" : String.format("%0" + takes + "d", order);
        if (digits.length() != takes || takes == 0 && order != 0) {
            return null;
        }
        int[] places = new int[takes];
        Class<?>[] types = new Class<?>[takes];
        for (int k = 0; k < takes; k++) {
            places[k] = digits.charAt(k) - '0';
            if (places[k] >= takes || types[places[k]] != null) {
                return null;
            }
            types[places[k]] = h.type().parameterType(k);
        }
        return MethodHandles.permuteArguments(h, MethodType.methodType(h.type().returnType(), types), places);
    }

    private MethodHandle caught(MethodHandle h, MethodHandle x, int a) throws Exception {
        MethodHandle coded = filterArguments(x, 0, lookup.findStatic(InvokeRunsTest.class, "codeOf",
            MethodType.methodType(int.class, RuntimeException.class)));
        MethodHandle test = insertArguments(lookup.findStatic(InvokeRunsTest.class, "isCaught",
            MethodType.methodType(boolean.class, int.class, RuntimeException.class)), 0, a);
        MethodHandle again = dropArguments(MethodHandles.throwException(h.type().returnType(), RuntimeException.class),
            1, h.type().parameterList());
        return MethodHandles.catchException(h, RuntimeException.class, guardWithTest(test, coded, again));
    }

    static boolean isCaught(int a, RuntimeException thrown) {
        int by = codeOf(thrown);
        return (by < 7 || by >= 100) && (a == 0 || a == by);
    }

    private static MethodType endType(MethodType taken) {
        return taken.insertParameterTypes(0, int.class).changeReturnType(void.class);
    }

    private MethodHandle ended(MethodHandle h, MethodHandle x) throws Exception {
        MethodHandle told = filterArguments(x, 0, lookup.findStatic(InvokeRunsTest.class, "endedBy",
            MethodType.methodType(int.class, Throwable.class)));
        Class<?> gives = h.type().returnType();
        if (gives == void.class) {
            return MethodHandles.tryFinally(h, told);
        }
        MethodHandle same = dropArguments(MethodHandles.identity(gives), 0, Throwable.class);
        MethodHandle all = dropArguments(same, 2, h.type().parameterList());
        return MethodHandles.tryFinally(h, foldArguments(all, dropArguments(told, 1, gives)));
    }

    static int endedBy(Throwable thrown) {
        int by = thrown == null ? 0 : codeOf((RuntimeException) thrown);
        return by >= 7 && by <= 10 ? 99 : by;
    }

    private static boolean isRound(MethodType h, MethodType x, MethodType y) {
        Class<?> t = y.returnType();
        return h.equals(type("I")) && y.parameterCount() == 0 && t != void.class
            && x.equals(MethodType.methodType(t, t, int.class));
    }

    private static boolean endsInInts(MethodType type, int many) {
        int first = type.parameterCount() - many;
        return first >= 0 && type.parameterList().subList(first, first + many).stream().allMatch(t -> t == int.class);
    }

    private MethodHandle gathered(MethodHandle h, int a) throws Exception {
        MethodHandle keep = lookup.bind(this, "kept", MethodType.methodType(int[].class, int[].class));
        return filterArguments(h, h.type().parameterCount() - 1, keep).asCollector(int[].class, a);
    }

    /** Java's Object takes an int[] and may be cast to one; a BOX has no ROW. */
    private static boolean hasRowAsBox(MethodType from, MethodType to) {
        boolean has = isRowAndBox(from.returnType(), to.returnType());
        for (int k = 0; k < Math.min(from.parameterCount(), to.parameterCount()); k++) {
            has |= isRowAndBox(from.parameterType(k), to.parameterType(k));
        }
        return has;
    }

    private static boolean isRowAndBox(Class<?> p, Class<?> q) {
        return p == int[].class && q == Object.class || p == Object.class && q == int[].class;
    }

    // ---- RUNS

    private void runOne() {
        // Most of the time one of the latest, which have more within them.
        int h = random.nextInt(random.nextInt(5) == 0 ? handles.size() : Math.min(20, handles.size()));
        h = handles.size() - 1 - h;
        MethodHandle handle = handles.get(h);
        boolean exact = random.nextBoolean();
        if (random.nextInt(6) != 0) {
            takeValues(handle.type());
        }
        steps = 0;
        Object got = null;
        int by = 0;
        try {
            got = ready(handle, exact).invokeWithArguments(hand);
        } catch (RuntimeException thrown) {
            by = codeOf(thrown);
        } catch (Throwable thrown) {
            throw new IllegalStateException(thrown);
        }
        failures[by]++;
        same("run(" + h + ", " + exact + ")", mine.run(h, exact), by == 0 ? 1 : -10 - by);
        same("told(1)", mine.told(1), rows.size());
        same("told(4)", mine.told(4), steps);
        same("told(5)", mine.told(5), counted);
        same("resultKind()", mine.resultKind(), kindOf(got));
        same("result()", mine.result(), numberOf(got));
        sameItems();
    }

    private void sameItems() {
        int[] row = rows.get(random.nextInt(rows.size()));
        for (int k = 0; k < Math.min(row.length, 3); k++) {
            same("item(" + rows.indexOf(row) + ", " + k + ")", mine.item(rows.indexOf(row), k), 1);
            same("result()", mine.result(), row[k]);
        }
    }

    /** With all VALUES converted as a call with just their types would be; WRONG where Java knows no such call. */
    private MethodHandle ready(MethodHandle handle, boolean exact) {
        if (handle.type().parameterCount() != hand.size()) {
            throw new Failed(7);
        }
        Class<?>[] types = new Class<?>[hand.size()];
        for (int k = 0; k < types.length; k++) {
            Class<?> wanted = handle.type().parameterType(k);
            types[k] = classOf(hand.get(k), wanted);
            boolean boxed = wanted == Object.class && !(hand.get(k) instanceof int[]);
            if (wanted == Object.class && !boxed || exact && types[k] != wanted && !boxed) {
                throw new Failed(7);
            }
        }
        return handle.asType(MethodType.methodType(handle.type().returnType(), types));
    }

    private static Class<?> classOf(Object v, Class<?> wanted) {
        if (v == null) {
            return wanted == int[].class ? int[].class : Object.class;
        }
        return v instanceof Integer ? int.class : v instanceof Long ? long.class : int[].class;
    }

    /** VALUES that fit, most of the time. */
    private void takeValues(MethodType type) {
        same("clear()", mine.clear(), hand.size());
        hand.clear();
        for (int k = 0; k < type.parameterCount(); k++) {
            int wanted = CLASSES.indexOf(type.parameterType(k));
            int kind = wanted == ROW ? 2 : wanted == BOX ? random.nextInt(2) : wanted;
            kind = random.nextInt(12) == 0 ? random.nextInt(4) : kind;
            long v = kind == 2 ? random.nextInt(rows.size()) : random.nextInt(20) == 0 ? random.nextInt() : random.nextInt(9) - 2;
            same("value(" + k + ", " + kind + ", " + v + ")", mine.value(k, kind, v), k + 1);
            hand.add(kind == 0 ? (Object) (int) v : kind == 1 ? (Object) v : kind == 2 ? rows.get((int) v) : null);
        }
    }

    static int codeOf(RuntimeException thrown) {
        if (thrown instanceof Failed failed) {
            return failed.by;
        }
        List<Class<?>> known = List.of(ArithmeticException.class, ClassCastException.class, NullPointerException.class,
            ArrayIndexOutOfBoundsException.class, NegativeArraySizeException.class, IllegalArgumentException.class,
            WrongMethodTypeException.class);
        int by = known.indexOf(thrown.getClass()) + 1;
        if (by == 0) {
            throw thrown;
        }
        return by;
    }

    private static int kindOf(Object v) {
        return v == null ? 3 : v instanceof int[] ? 2 : v instanceof Long ? 1 : 0;
    }

    private long numberOf(Object v) {
        return v == null ? 0 : v instanceof int[] row ? rows.indexOf(row) : ((Number) v).longValue();
    }
}
