import java.util.ArrayList;
import java.util.Arrays;
import java.util.List;

/**
 * The document once more, written another way, for ModelRunsTest alone: VALUES are Integer, Long, int[] and null,
 * HANDLES are functions, and what a STEP FAILS by is thrown, by the Java machine itself where it can be.
 */
final class Model {
    private static final List<Integer> NONE_TAKEN = List.of();

    private interface Act {
        Object on(Object[] values);
    }

    record Signature(List<Integer> takes, int gives) {
        int size() {
            return takes.size();
        }
    }

    private record Made(Signature signature, Act act) {
    }

    private static final class Spot {
        Signature signature;
        Made starter;
        int link = -1;
    }

    private static final class Refused extends RuntimeException {
        final int code;

        Refused(int code) {
            super(null, null, false, false);
            this.code = code;
        }
    }

    private static final class Failed extends RuntimeException {
        final int by;

        Failed(int by) {
            super(null, null, false, false);
            this.by = by;
        }
    }

    private final List<Made> handles = new ArrayList<>();
    private final List<int[]> rows = new ArrayList<>();
    private final List<Spot> spots = new ArrayList<>();
    private final List<Object> hand = new ArrayList<>();
    private Object latest = null;
    private int steps = 0;
    private int counted = 0;
    private int failedBy = 0;

    // ---- the face

    int plain(int form, int a, int b) {
        if (form == 0 && a == 3 && (b < 0 || b >= rows.size())) {
            return -2;
        }
        if (form < 0 || form > 13) {
            return -3;
        }
        if ((form == 0 || form == 12) && (a < 0 || a > 4) || form == 1 && (a < 0 || a > 3)) {
            return -3;
        }
        if (form == 12 && (b < 0 || b > 99)) {
            return -3;
        }
        return keep(plainMade(form, a, b));
    }

    int other(int form, int h, int x, int y, int a, int b) {
        try {
            return keep(otherMade(form, known(h), x, y, a, b));
        } catch (Refused refused) {
            return refused.code;
        }
    }

    int row(int n) {
        if (n < 0 || n > 20) {
            return -3;
        }
        if (rows.size() == 60) {
            return -5;
        }
        rows.add(new int[n]);
        return rows.size() - 1;
    }

    int set(int row, int k, int v) {
        try {
            rows.get(row)[k] = v;
            return 1;
        } catch (IndexOutOfBoundsException none) {
            return -2;
        }
    }

    int item(int row, int k) {
        try {
            latest = rows.get(row)[k];
            return 1;
        } catch (IndexOutOfBoundsException none) {
            return -2;
        }
    }

    int value(int k, int kind, long v) {
        if (kind == 2 && (v < 0 || v >= rows.size())) {
            return -2;
        }
        if (k < 0 || k > hand.size() || k > 5 || kind < 0 || kind > 3) {
            return -3;
        }
        if (kind == 0 && (v > Integer.MAX_VALUE || v < Integer.MIN_VALUE)) {
            return -3;
        }
        while (hand.size() > k) {
            hand.remove(hand.size() - 1);
        }
        hand.add(kind == 0 ? (Object) (int) v : kind == 1 ? (Object) v : kind == 2 ? rows.get((int) v) : null);
        return hand.size();
    }

    int clear() {
        int before = hand.size();
        hand.clear();
        return before;
    }

    int run(int h, boolean exact) {
        if (h < 0 || h >= handles.size()) {
            return -2;
        }
        return ran(() -> handles.get(h).act.on(taken(handles.get(h).signature, exact)));
    }

    int site(int h, int starter) {
        if (h < 0 || h >= handles.size() || starter < 0 || starter >= handles.size()) {
            return -2;
        }
        if (!handles.get(starter).signature.equals(new Signature(NONE_TAKEN, 0))) {
            return -4;
        }
        if (spots.size() == 10) {
            return -5;
        }
        Spot spot = new Spot();
        spot.signature = handles.get(h).signature;
        spot.starter = handles.get(starter);
        spots.add(spot);
        return spots.size() - 1;
    }

    int runSite(int s, boolean exact) {
        if (s < 0 || s >= spots.size()) {
            return -2;
        }
        Spot spot = spots.get(s);
        return ran(() -> {
            Object[] values = taken(spot.signature, exact);
            if (spot.link == -1) {
                int number = (Integer) spot.starter.act.on(new Object[0]);
                boolean there = number >= 0 && number < handles.size();
                if (!there || !handles.get(number).signature.equals(spot.signature)) {
                    throw new Failed(8);
                }
                spot.link = number;
            }
            return handles.get(spot.link).act.on(values);
        });
    }

    int turn(int s, int h) {
        if (s < 0 || s >= spots.size() || h < 0 || h >= handles.size()) {
            return -2;
        }
        Spot spot = spots.get(s);
        if (spot.link == -1 || !handles.get(h).signature.equals(spot.signature)) {
            return -4;
        }
        spot.link = h;
        return 1;
    }

    int linked(int s) {
        return s < 0 || s >= spots.size() ? -2 : spots.get(s).link;
    }

    int about(int h, int what) {
        if (h < 0 || h >= handles.size()) {
            return -2;
        }
        Signature signature = handles.get(h).signature;
        if (what == 0) {
            return signature.size();
        }
        if (what == 7) {
            return signature.gives;
        }
        return what < 0 || what > signature.size() ? -3 : signature.takes.get(what - 1);
    }

    int resultKind() {
        return latest == null ? 3 : latest instanceof int[] ? 2 : latest instanceof Long ? 1 : 0;
    }

    long result() {
        return latest == null ? 0 : latest instanceof int[] row ? numberOf(row) : ((Number) latest).longValue();
    }

    int told(int what) {
        int[] all = {handles.size(), rows.size(), spots.size(), hand.size(), steps, counted, failedBy};
        return what < 0 || what >= all.length ? -3 : all[what];
    }

    // ---- what ModelRunsTest asks to find calls that go through

    boolean wouldMake(int form, int h, int x, int y, int a, int b) {
        try {
            otherMade(form, known(h), x, y, a, b);
            return true;
        } catch (Refused refused) {
            return false;
        }
    }

    // ---- runs

    private interface Doing {
        Object go();
    }

    private int ran(Doing doing) {
        steps = 0;
        latest = null;
        failedBy = 0;
        try {
            latest = doing.go();
            return 1;
        } catch (RuntimeException thrown) {
            failedBy = codeOf(thrown);
            return -10 - failedBy;
        }
    }

    private static int codeOf(RuntimeException thrown) {
        if (thrown instanceof Failed failed) {
            return failed.by;
        }
        if (thrown instanceof ArithmeticException) {
            return 1;
        }
        if (thrown instanceof ClassCastException) {
            return 2;
        }
        if (thrown instanceof NullPointerException) {
            return 3;
        }
        if (thrown instanceof ArrayIndexOutOfBoundsException) {
            return 4;
        }
        if (thrown instanceof NegativeArraySizeException) {
            return 5;
        }
        if (thrown instanceof IllegalArgumentException) {
            return 6;
        }
        throw thrown;
    }

    private int numberOf(int[] row) {
        for (int k = 0; k < rows.size(); k++) {
            if (rows.get(k) == row) {
                return k;
            }
        }
        throw new IllegalStateException("a row that is none of them");
    }

    private int[] newRow(int[] items) {
        if (rows.size() == 60) {
            throw new Failed(10);
        }
        rows.add(items);
        return items;
    }

    private Object[] taken(Signature signature, boolean exact) {
        if (hand.size() != signature.size()) {
            throw new Failed(7);
        }
        for (int k = 0; k < hand.size(); k++) {
            Object v = hand.get(k);
            int want = signature.takes.get(k);
            boolean fits = exact ? isOf(v, want) : adapts(typeOf(v, want), want);
            if (!fits) {
                throw new Failed(7);
            }
        }
        Object[] values = new Object[hand.size()];
        for (int k = 0; k < values.length; k++) {
            int want = signature.takes.get(k);
            values[k] = exact ? hand.get(k) : adapt(hand.get(k), typeOf(hand.get(k), want), want);
        }
        return values;
    }

    private static boolean isOf(Object v, int type) {
        return switch (type) {
            case 0 -> v instanceof Integer;
            case 1 -> v instanceof Long;
            case 2 -> v == null || v instanceof Number;
            default -> v == null || v instanceof int[];
        };
    }

    private static int typeOf(Object v, int want) {
        return v instanceof Integer ? 0 : v instanceof Long ? 1 : v instanceof int[] || want == 3 ? 3 : 2;
    }

    private static boolean adapts(int from, int to) {
        return List.of("00", "01", "02", "04", "11", "12", "14", "20", "21", "22", "24", "33", "34",
            "40", "41", "42", "43", "44").contains("" + from + to);
    }

    private static Object adapt(Object v, int from, int to) {
        if (to == 4 || from == 4 && to >= 2) {
            return null;
        }
        if (from == 4) {
            return to == 0 ? (Object) 0 : (Object) 0L;
        }
        if (to == 0) {
            int unboxed = (Integer) v;
            return unboxed;
        }
        if (to == 1) {
            long wide = ((Number) v).longValue();
            return wide;
        }
        return v;
    }

    // ---- handles

    private int keep(Made made) {
        if (handles.size() == 60) {
            return -5;
        }
        handles.add(made);
        return handles.size() - 1;
    }

    private Made known(int h) {
        if (h < 0 || h >= handles.size()) {
            throw new Refused(-2);
        }
        return handles.get(h);
    }

    private Made made(List<Integer> takes, int gives, Act act) {
        return new Made(new Signature(List.copyOf(takes), gives), values -> {
            steps++;
            if (steps > 80) {
                throw new Failed(9);
            }
            return act.on(values);
        });
    }

    private static int at(Object[] values, int k) {
        return (Integer) values[k];
    }

    private Made plainMade(int form, int a, int b) {
        List<Integer> two = List.of(0, 0);
        switch (form) {
            case 0: {
                Object fixed = a == 4 ? null : a == 3 ? rows.get(b) : a == 1 ? (Object) (long) b : (Object) b;
                return made(NONE_TAKEN, a, v -> fixed);
            }
            case 1: return made(List.of(a), a, v -> v[0]);
            case 2: return made(two, 0, v -> at(v, 0) + at(v, 1));
            case 3: return made(two, 0, v -> at(v, 0) - at(v, 1));
            case 4: return made(two, 0, v -> at(v, 0) * at(v, 1));
            case 5: return made(two, 0, v -> at(v, 0) / at(v, 1));
            case 6: return made(two, 0, v -> at(v, 0) < at(v, 1) ? 1 : 0);
            case 7: return made(List.of(1, 1), 1, v -> (Long) v[0] + (Long) v[1]);
            case 8: return made(List.of(3, 0), 0, v -> ((int[]) v[0])[at(v, 1)]);
            case 9: return made(List.of(3, 0, 0), 4, v -> {
                ((int[]) v[0])[at(v, 1)] = at(v, 2);
                return null;
            });
            case 10: return made(List.of(3), 0, v -> ((int[]) v[0]).length);
            case 11: return made(List.of(0), 3, v -> {
                if (at(v, 0) > 20) {
                    throw new IllegalArgumentException();
                }
                return newRow(new int[at(v, 0)]);
            });
            case 12: return made(NONE_TAKEN, a, v -> {
                throw new Failed(100 + b);
            });
            default: return made(NONE_TAKEN, 0, v -> ++counted);
        }
    }

    private static void need(boolean so, int code) {
        if (!so) {
            throw new Refused(code);
        }
    }

    private static List<Integer> joined(List<Integer> first, List<Integer> second) {
        List<Integer> all = new ArrayList<>(first);
        all.addAll(second);
        return all;
    }

    private static boolean starts(List<Integer> all, List<Integer> few) {
        return few.size() <= all.size() && all.subList(0, few.size()).equals(few);
    }

    private static Object[] some(Object[] values, int from, int to) {
        return Arrays.copyOfRange(values, from, to);
    }

    private static Object[] join(Object... parts) {
        List<Object> all = new ArrayList<>();
        for (Object part : parts) {
            if (part instanceof Object[] many) {
                all.addAll(Arrays.asList(many));
            } else {
                all.add(part);
            }
        }
        return all.toArray();
    }

    private Made otherMade(int form, Made h, int xn, int yn, int a, int b) {
        Made x = form >= 3 && form <= 9 || form == 12 ? known(xn) : null;
        Made y = form == 6 || form == 9 ? known(yn) : null;
        need(form >= 0 && form <= 12, -3);
        List<Integer> t = h.signature.takes;
        int n = t.size();
        switch (form) {
            case 0: return boundMade(h, t, n, a);
            case 1: return leftMade(h, t, n, a, b);
            case 2: return movedMade(h, t, n, a);
            case 3: return foldedMade(h, x, t);
            case 4: return siftedMade(h, x, t, n, a);
            case 5: return thenMade(h, x);
            case 6: return chosenMade(h, x, y);
            case 7: return caughtMade(h, x, a);
            case 8: return endedMade(h, x);
            case 9: return roundMade(h, x, y);
            case 10: return spreadMade(h, t, n, a);
            case 11: return gatheredMade(h, t, n, a);
            default: return adaptedMade(h, x);
        }
    }

    private Made boundMade(Made h, List<Integer> t, int n, int a) {
        need(a >= 0 && a < n, -3);
        need(!hand.isEmpty(), -4);
        Object held = hand.get(0);
        int from = typeOf(held, t.get(a));
        need(adapts(from, t.get(a)), -4);
        Object fits;
        try {
            fits = adapt(held, from, t.get(a));
        } catch (RuntimeException thrown) {
            throw new Refused(-4);
        }
        List<Integer> takes = new ArrayList<>(t);
        takes.remove(a);
        return made(takes, h.signature.gives, v -> {
            List<Object> all = new ArrayList<>(Arrays.asList(v));
            all.add(a, fits);
            return h.act.on(all.toArray());
        });
    }

    private Made leftMade(Made h, List<Integer> t, int n, int a, int b) {
        need(a >= 0 && a <= n && b >= 0 && b <= 3, -3);
        need(n < 6, -4);
        List<Integer> takes = new ArrayList<>(t);
        takes.add(a, b);
        return made(takes, h.signature.gives, v -> {
            List<Object> all = new ArrayList<>(Arrays.asList(v));
            all.remove(a);
            return h.act.on(all.toArray());
        });
    }

    private Made movedMade(Made h, List<Integer> t, int n, int a) {
        need(a >= 0, -3);
        String digits = n == 0 ? "" : String.format("%0" + n + "d", a);
        need(n == 0 ? a == 0 : digits.length() == n, -3);
        Integer[] takes = new Integer[n];
        for (int k = 0; k < n; k++) {
            int place = digits.charAt(k) - '0';
            need(place < n && takes[place] == null, -3);
            takes[place] = t.get(k);
        }
        return made(Arrays.asList(takes), h.signature.gives, v -> {
            Object[] moved = new Object[n];
            for (int k = 0; k < n; k++) {
                moved[k] = v[digits.charAt(k) - '0'];
            }
            return h.act.on(moved);
        });
    }

    private Made foldedMade(Made h, Made x, List<Integer> t) {
        int many = x.signature.size();
        if (x.signature.gives == 4) {
            need(starts(t, x.signature.takes), -4);
            return made(t, h.signature.gives, v -> {
                x.act.on(some(v, 0, many));
                return h.act.on(v);
            });
        }
        need(starts(t, joined(List.of(x.signature.gives), x.signature.takes)), -4);
        return made(t.subList(1, t.size()), h.signature.gives, v -> h.act.on(join(x.act.on(some(v, 0, many)), v)));
    }

    private Made siftedMade(Made h, Made x, List<Integer> t, int n, int a) {
        need(a >= 0 && a < n, -3);
        need(x.signature.size() == 1 && x.signature.gives == t.get(a), -4);
        List<Integer> takes = new ArrayList<>(t);
        takes.set(a, x.signature.takes.get(0));
        return made(takes, h.signature.gives, v -> {
            Object[] sifted = v.clone();
            sifted[a] = x.act.on(new Object[] {v[a]});
            return h.act.on(sifted);
        });
    }

    private Made thenMade(Made h, Made x) {
        int gives = h.signature.gives;
        need(x.signature.takes.equals(gives == 4 ? NONE_TAKEN : List.of(gives)), -4);
        return made(h.signature.takes, x.signature.gives, v -> {
            Object given = h.act.on(v);
            return x.act.on(gives == 4 ? new Object[0] : new Object[] {given});
        });
    }

    private Made chosenMade(Made h, Made x, Made y) {
        need(h.signature.gives == 0 && x.signature.equals(y.signature), -4);
        need(starts(x.signature.takes, h.signature.takes), -4);
        int many = h.signature.size();
        return made(x.signature.takes, x.signature.gives,
            v -> ((Integer) h.act.on(some(v, 0, many)) != 0 ? x : y).act.on(v));
    }

    private Made caughtMade(Made h, Made x, int a) {
        need(a >= 0 && a <= 6 || a >= 100 && a <= 199, -3);
        need(x.signature.equals(new Signature(joined(List.of(0), h.signature.takes), h.signature.gives)), -4);
        return made(h.signature.takes, h.signature.gives, v -> {
            int by;
            try {
                return h.act.on(v);
            } catch (RuntimeException thrown) {
                by = codeOf(thrown);
                if (by >= 7 && by <= 10 || a != 0 && a != by) {
                    throw thrown;
                }
            }
            return x.act.on(join(by, v));
        });
    }

    private Made endedMade(Made h, Made x) {
        need(x.signature.equals(new Signature(joined(List.of(0), h.signature.takes), 4)), -4);
        return made(h.signature.takes, h.signature.gives, v -> {
            int by = 0;
            try {
                return h.act.on(v);
            } catch (RuntimeException thrown) {
                by = codeOf(thrown);
                throw thrown;
            } finally {
                x.act.on(join(by >= 7 && by <= 10 ? 99 : by, v));
            }
        });
    }

    private Made roundMade(Made h, Made x, Made y) {
        int type = y.signature.gives;
        need(h.signature.equals(new Signature(NONE_TAKEN, 0)), -4);
        need(y.signature.size() == 0 && type != 4, -4);
        need(x.signature.equals(new Signature(List.of(type, 0), type)), -4);
        return made(NONE_TAKEN, type, v -> {
            int n = (Integer) h.act.on(new Object[0]);
            Object last = y.act.on(new Object[0]);
            for (int k = 0; k < n; k++) {
                last = x.act.on(new Object[] {last, k});
            }
            return last;
        });
    }

    private Made spreadMade(Made h, List<Integer> t, int n, int a) {
        need(a >= 1 && a <= 6, -3);
        need(a <= n, -4);
        need(t.subList(n - a, n).stream().allMatch(type -> type == 0), -4);
        return made(joined(t.subList(0, n - a), List.of(3)), h.signature.gives, v -> {
            int[] row = (int[]) v[n - a];
            if (row.length != a) {
                throw new IllegalArgumentException();
            }
            return h.act.on(join(some(v, 0, n - a), Arrays.stream(row).boxed().toArray()));
        });
    }

    private Made gatheredMade(Made h, List<Integer> t, int n, int a) {
        need(a >= 0 && a <= 5, -3);
        need(n > 0 && t.get(n - 1) == 3 && n - 1 + a <= 6, -4);
        List<Integer> takes = joined(t.subList(0, n - 1), java.util.Collections.nCopies(a, 0));
        return made(takes, h.signature.gives, v -> {
            int[] items = new int[a];
            for (int k = 0; k < a; k++) {
                items[k] = at(v, n - 1 + k);
            }
            return h.act.on(join(some(v, 0, n - 1), newRow(items)));
        });
    }

    private Made adaptedMade(Made h, Made x) {
        Signature inner = h.signature;
        Signature outer = x.signature;
        need(inner.size() == outer.size() && adapts(inner.gives, outer.gives), -4);
        for (int k = 0; k < inner.size(); k++) {
            need(adapts(outer.takes.get(k), inner.takes.get(k)), -4);
        }
        return made(outer.takes, outer.gives, v -> {
            Object[] adapted = new Object[v.length];
            for (int k = 0; k < v.length; k++) {
                adapted[k] = adapt(v[k], outer.takes.get(k), inner.takes.get(k));
            }
            return adapt(h.act.on(adapted), inner.gives, outer.gives);
        });
    }
}
