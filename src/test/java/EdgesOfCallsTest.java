/** The boundary cases of the small calls: row, set, item, value, clear, about, resultKind, result, told. */
public final class EdgesOfCallsTest {
    private static final Checks c = new Checks();
    private static final int INT = 0, LONG = 1, BOX = 2, ROW = 3, VOID = 4;
    private static final int MAX = Integer.MAX_VALUE, MIN = Integer.MIN_VALUE;

    public static void main(String[] args) {
        newObject();
        rowLengths();
        setAndItemNumbers();
        itemsSideBySide();
        itemIsTheResult();
        valuePlaces();
        valueCutsOff();
        valueRows();
        valueBounds();
        cleared();
        about();
        resultKinds();
        resultNumbers();
        toldNumbers();
        toldAfterEach();
        lastOf512();
        constants();
        c.end();
    }

    private static void newObject() {
        c.says("Nothing is there.");
        HandleModels m = new HandleModels();
        for (int what = 0; what <= 6; what++) {
            c.due("told " + what, m.told(what), 0);
        }
        c.due("kind", m.resultKind(), 3);
        c.due("number", m.result(), 0);
        c.due("clear", m.clear(), 0);
        for (int number : new int[] {-1, 0, 1, MAX, MIN}) {
            c.due("HANDLE " + number, m.about(number, 0), Checks.UNKNOWN);
            c.due("run " + number, m.run(number, false), Checks.UNKNOWN);
            c.due("other of " + number, m.other(2, number, 0, 0, 0, 0), Checks.UNKNOWN);
            c.due("SITE " + number, m.linked(number), Checks.UNKNOWN);
            c.due("site of " + number, m.site(number, number), Checks.UNKNOWN);
            c.due("ROW " + number, m.item(number, 0), Checks.UNKNOWN);
            c.due("set of " + number, m.set(number, 0, 0), Checks.UNKNOWN);
            c.due("VALUE of ROW " + number, m.value(0, 2, number), Checks.UNKNOWN);
            c.due("HANDLE of ROW " + number, m.plain(0, ROW, number), Checks.UNKNOWN);
        }
        c.due("the first HANDLE", m.plain(13, 0, 0), 0);
        c.due("the first ROW", m.row(0), 0);
        c.due("the first SITE", m.site(0, 0), 0);
        c.due("the first VALUE", m.value(0, 0, 0), 1);
    }

    private static void rowLengths() {
        c.says("A ROW of n INTS, 0 (0 to 20): its number. OUTSIDE; FULL.");
        HandleModels m = new HandleModels();
        for (int n : new int[] {-1, 21, 22, MAX, MIN}) {
            c.due("of " + n, m.row(n), Checks.OUTSIDE);
        }
        c.due("none is made", m.told(1), 0);
        for (int n = 0; n <= 20; n++) {
            c.due("of " + n, m.row(n), n);
            c.due("its end", m.item(n, n), Checks.UNKNOWN);
            if (n > 0) {
                c.item("its last one", m, n, n - 1, 0);
            }
        }
        for (int k = 21; k < 60; k++) {
            c.due("ROW " + k, m.row(20), k);
        }
        c.due("FULL, of 0", m.row(0), Checks.FULL);
        c.due("FULL, of 20", m.row(20), Checks.FULL);
        c.due("OUTSIDE is ahead of FULL", m.row(-1), Checks.OUTSIDE);
        c.due("OUTSIDE is ahead of FULL, above", m.row(21), Checks.OUTSIDE);
    }

    private static void setAndItemNumbers() {
        c.says("UNKNOWN (also k).");
        HandleModels m = new HandleModels();
        m.row(20);
        m.row(0);
        m.row(1);
        int[][] none = {{-1, 0}, {3, 0}, {59, 0}, {60, 0}, {MAX, 0}, {MIN, 0}, {0, -1}, {0, 20}, {0, MAX}, {0, MIN},
            {1, 0}, {1, -1}, {2, 1}, {2, -1}, {2, 20}, {-1, -1}, {MAX, MAX}, {MIN, MIN}, {-1, 20}};
        for (int[] n : none) {
            c.due("set " + n[0] + ", " + n[1], m.set(n[0], n[1], 5), Checks.UNKNOWN);
            c.due("item " + n[0] + ", " + n[1], m.item(n[0], n[1]), Checks.UNKNOWN);
        }
        c.due("no RESULT", m.resultKind(), 3);
        int[][] there = {{0, 0}, {0, 19}, {2, 0}};
        for (int[] t : there) {
            c.item("none was set", m, t[0], t[1], 0);
            for (int v : new int[] {MIN, -1, 0, 1, MAX}) {
                c.due("set", m.set(t[0], t[1], v), 1);
                c.item("it becomes v", m, t[0], t[1], v);
            }
        }
    }

    private static void itemsSideBySide() {
        c.says("Item k of a ROW becomes v");
        HandleModels m = new HandleModels();
        for (int row = 0; row < 3; row++) {
            m.row(20);
        }
        for (int row = 0; row < 3; row++) {
            for (int k = 0; k < 20; k++) {
                m.set(row, k, 100 * row + k);
            }
        }
        for (int row = 0; row < 3; row++) {
            for (int k = 0; k < 20; k++) {
                c.item("ROW " + row + ", item " + k, m, row, k, 100 * row + k);
            }
        }
    }

    private static void itemIsTheResult() {
        c.says("Item k of a ROW: 1, and the RESULT.");
        HandleModels m = new HandleModels();
        m.row(2);
        m.set(0, 1, MIN);
        m.plain(12, INT, 3);
        m.run(0, true);
        c.item("behind a RUN that FAILED", m, 0, 1, MIN);
        c.due("told 6 is of the RUN", m.told(6), 103);
        c.due("told 4 is of the RUN", m.told(4), 1);
        c.due("a refused one", m.item(0, 2), Checks.UNKNOWN);
        c.due("leaves the RESULT", m.result(), MIN);
        m.set(0, 1, 9);
        c.due("set leaves it too", m.result(), MIN);
    }

    private static void valuePlaces() {
        c.says("VALUE k (0 to how many there are, below 6)");
        HandleModels m = new HandleModels();
        for (int there = 0; there <= 6; there++) {
            for (int k : new int[] {-1, there + 1, there + 2, 6, 7, MAX, MIN}) {
                c.due("place " + k + " of " + there, m.value(k, INT, 1), Checks.OUTSIDE);
            }
            c.due("how many", m.told(3), there);
            c.due("place " + there, m.value(there, INT, 1), there < 6 ? there + 1 : Checks.OUTSIDE);
        }
        c.due("six of them", m.told(3), 6);
        c.due("the last one anew", m.value(5, INT, 2), 6);
    }

    private static void valueCutsOff() {
        c.says("those behind it are gone: how many there are");
        for (int k = 0; k < 6; k++) {
            HandleModels m = new HandleModels();
            int gather = m.other(11, m.plain(1, ROW, 0), 0, 0, Math.min(k + 1, 5), 0);
            c.ints(m, 10, 11, 12, 13, 14, 15);
            c.due("VALUE " + k + " anew", m.value(k, INT, 99), k + 1);
            c.due("how many", m.told(3), k + 1);
            if (k < 5) {
                c.gives("they are", m, gather, true, 2, 0);
                for (int place = 0; place <= k; place++) {
                    c.item("VALUE " + place, m, 0, place, place == k ? 99 : 10 + place);
                }
                c.due("place " + (k + 2) + " is gone", m.value(k + 2, INT, 1), Checks.OUTSIDE);
            }
            c.due("cleared", m.clear(), k + 1);
        }
    }

    private static void valueRows() {
        c.says("UNKNOWN: a ROW");
        HandleModels m = new HandleModels();
        m.row(0);
        m.row(0);
        for (long row : new long[] {2, -1, 60, MAX, MIN, 1L << 32, (1L << 32) + 1, Long.MAX_VALUE, Long.MIN_VALUE}) {
            c.due("ROW " + row, m.value(0, 2, row), Checks.UNKNOWN);
            c.due("ROW " + row + ", and no such place", m.value(7, 2, row), Checks.UNKNOWN);
            c.due("that number as a LONG", m.value(0, 1, row), 1);
            c.due("that number of NOTHING", m.value(0, 3, row), 1);
        }
        c.due("the last ROW", m.value(0, 2, 1), 1);
        c.gives("is at hand", m, m.plain(1, ROW, 0), true, 2, 1);
        c.due("a ROW, and no such place", m.value(2, 2, 1), Checks.OUTSIDE);
    }

    private static void valueBounds() {
        c.says("OUTSIDE: k, the kind, an INT beyond its bounds");
        HandleModels m = new HandleModels();
        int same = m.plain(1, BOX, 0);
        for (long v : new long[] {MIN, MAX, 0}) {
            c.due("an INT " + v, m.value(0, 0, v), 1);
            c.gives("is at hand", m, same, true, 0, v);
        }
        for (long v : new long[] {MIN - 1L, MAX + 1L, 1L << 32, Long.MIN_VALUE, Long.MAX_VALUE, -1L << 32}) {
            c.due("an INT " + v, m.value(0, 0, v), Checks.OUTSIDE);
            c.gives("the one ahead stays", m, same, true, 0, 0);
            c.due("a LONG " + v, m.value(0, 1, v), 1);
            c.gives("is at hand", m, same, true, 1, v);
            m.value(0, 0, 0);
        }
        for (int kind : new int[] {-1, 4, 5, MAX, MIN}) {
            c.due("kind " + kind, m.value(0, kind, 0), Checks.OUTSIDE);
        }
        c.due("NOTHING, of a number", m.value(0, 3, Long.MIN_VALUE), 1);
        c.gives("has none", m, same, true, 3, 0);
        c.due("one VALUE", m.told(3), 1);
    }

    private static void cleared() {
        c.says("No VALUES: how many there were.");
        HandleModels m = new HandleModels();
        c.due("none", m.clear(), 0);
        c.ints(m, 1, 2, 3, 4, 5, 6);
        c.due("six", m.clear(), 6);
        c.due("none again", m.clear(), 0);
        c.due("told", m.told(3), 0);
        c.due("only place 0 is free", m.value(1, 0, 0), Checks.OUTSIDE);
        m.plain(1, INT, 0);
        c.fails("a RUN has none", m, 0, 7);
        c.due("nothing to be bound", m.other(0, 0, 0, 0, 0, 0), Checks.STATE);
    }

    private static void about() {
        c.says("0 how many it takes, 1 to 6 these TYPES (OUTSIDE beyond), 7 what it gives. UNKNOWN; OUTSIDE.");
        int[] types = {ROW, BOX, LONG, INT, ROW, LONG};
        HandleModels m = new HandleModels();
        int h = m.plain(12, VOID, 0);
        for (int takes = 0; takes <= 6; takes++) {
            c.due("how many", m.about(h, 0), takes);
            for (int k = 1; k <= 6; k++) {
                c.due("TYPE " + k + " of " + takes, m.about(h, k), k <= takes ? types[k - 1] : Checks.OUTSIDE);
            }
            c.due("gives", m.about(h, 7), VOID);
            for (int what : new int[] {-1, 8, 9, MAX, MIN}) {
                c.due("what " + what, m.about(h, what), Checks.OUTSIDE);
            }
            h = takes < 6 ? m.other(1, h, 0, 0, takes, types[takes]) : h;
        }
        for (int none : new int[] {-1, 7, 60, MAX, MIN}) {
            c.due("HANDLE " + none, m.about(none, 0), Checks.UNKNOWN);
            c.due("HANDLE " + none + ", and OUTSIDE", m.about(none, 8), Checks.UNKNOWN);
        }
    }

    private static void resultKinds() {
        c.says("The kind of the latest RESULT (3 at first, and where a RUN FAILED, or gave VOID).");
        HandleModels m = new HandleModels();
        c.due("at first", m.resultKind(), 3);
        m.row(1);
        int seven = m.plain(0, LONG, 7);
        int[] none = {m.plain(12, INT, 0), m.plain(0, VOID, 7), m.plain(2, 0, 0)};
        for (int h : none) {
            c.gives("a LONG", m, seven, true, 1, 7);
            m.run(h, true);
            c.due("FAILED, VOID, WRONG", m.resultKind(), 3);
            c.due("its number", m.result(), 0);
        }
        c.gives("a LONG", m, seven, true, 1, 7);
        c.due("a SITE", m.runSite(m.site(seven, m.plain(0, INT, 99)), true), -18);
        c.due("LINK", m.resultKind(), 3);
        c.item("an item", m, 0, 0, 0);
    }

    private static void resultNumbers() {
        c.says("Its number (0 of NOTHING).");
        HandleModels m = new HandleModels();
        m.row(0);
        m.row(0);
        c.due("at first", m.result(), 0);
        int box = m.plain(1, BOX, 0);
        int row = m.plain(1, ROW, 0);
        for (long number : new long[] {Long.MIN_VALUE, -1, 0, Long.MAX_VALUE}) {
            c.values(m, 1, number);
            c.gives("a LONG", m, box, true, 1, number);
        }
        c.values(m, 3, 77);
        c.gives("NOTHING boxed", m, box, true, 3, 0);
        c.gives("NOTHING of ROW", m, row, true, 3, 0);
        c.values(m, 2, 1);
        c.gives("a ROW", m, row, true, 2, 1);
    }

    private static void toldNumbers() {
        c.says("6 what the latest RUN FAILED by (0). OUTSIDE.");
        HandleModels m = new HandleModels();
        for (int what : new int[] {-1, 7, 8, MAX, MIN}) {
            c.due("what " + what, m.told(what), Checks.OUTSIDE);
        }
        c.due("no RUN yet", m.told(6), 0);
        c.fails("FAILED", m, m.plain(12, INT, 99), 199);
        c.due("UNKNOWN is no RUN", m.run(9, true), Checks.UNKNOWN);
        c.due("UNKNOWN is no RUN of a SITE", m.runSite(9, true), Checks.UNKNOWN);
        c.due("still 199", m.told(6), 199);
        c.gives("not FAILED", m, m.plain(0, INT, 5), 5);
        c.due("0 again", m.told(6), 0);
    }

    private static void toldAfterEach() {
        c.says("How many: 0 HANDLES, 1 ROWS, 2 SITES, 3 VALUES; 4 STEPS of the latest RUN, 5 what form 13 COUNTED");
        HandleModels m = new HandleModels();
        int count = m.plain(13, 0, 0);
        int make = m.plain(11, 0, 0);
        m.other(2, count, 0, 0, 0, 0);
        all(m, 3, 0, 0, 0, 0, 0, 0);
        m.row(1);
        all(m, 3, 1, 0, 0, 0, 0, 0);
        m.site(count, count);
        all(m, 3, 1, 1, 0, 0, 0, 0);
        m.value(0, INT, 21);
        m.value(1, INT, 21);
        all(m, 3, 1, 1, 2, 0, 0, 0);
        m.run(count, true);
        all(m, 3, 1, 1, 2, 0, 0, 7);
        m.clear();
        m.run(2, true);
        all(m, 3, 1, 1, 0, 2, 1, 0);
        m.runSite(0, true);
        all(m, 3, 1, 1, 0, 3, 3, 0);
        m.value(0, INT, 20);
        m.run(make, true);
        all(m, 3, 2, 1, 1, 1, 3, 0);
        m.value(0, INT, 21);
        m.run(make, true);
        all(m, 3, 2, 1, 1, 1, 3, 6);
    }

    private static void all(HandleModels m, int... due) {
        for (int what = 0; what < due.length; what++) {
            c.due("told " + what, m.told(what), due[what]);
        }
    }

    /** All that an object may hold is there, and the 512th call is as good as the first one. */
    private static void lastOf512() {
        c.says("An object is used for at most 512 calls after it has been made");
        HandleModels m = new HandleModels();
        int used = 0;
        for (int k = 0; k < 60; k++) {
            c.due("ROW " + k, m.row(20), k);
            c.due("HANDLE " + k, k == 0 ? m.plain(13, 0, 0) : m.other(2, k - 1, 0, 0, 0, 0), k);
            used += 2;
        }
        for (int s = 0; s < 10; s++) {
            c.due("SITE " + s, m.site(59, 0), s);
            used++;
        }
        for (int call = used + 1; call < 512; call++) {
            c.due("call " + call, m.run(59, true), 1);
        }
        c.due("the 512th", m.result(), 511 - used);
    }

    private static void constants() {
        c.says("NONE = -1, UNKNOWN = -2, OUTSIDE = -3, STATE = -4, FULL = -5");
        c.due("NONE", HandleModels.NONE, -1);
        c.due("UNKNOWN", HandleModels.UNKNOWN, -2);
        c.due("OUTSIDE", HandleModels.OUTSIDE, -3);
        c.due("STATE", HandleModels.STATE, -4);
        c.due("FULL", HandleModels.FULL, -5);
    }
}
