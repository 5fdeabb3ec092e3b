/** Promise 2: plain HANDLES, their TYPES, what they give and FAIL by, and refusals. */
public final class Promise02PlainTest {
    private static final Checks c = new Checks();
    private static final int INT = 0, LONG = 1, BOX = 2, ROW = 3, VOID = 4, NOTHING = 3;

    public static void main(String[] args) {
        refusals();
        full();
        types();
        fixedAndSame();
        numbers();
        rows();
        failures();
        counts();
        c.end();
    }

    private static void refusals() {
        HandleModels m = new HandleModels();
        c.due("form -1", m.plain(-1, 0, 0), Checks.OUTSIDE);
        c.due("form 14", m.plain(14, 0, 0), Checks.OUTSIDE);
        c.due("highest form", m.plain(Integer.MAX_VALUE, 0, 0), Checks.OUTSIDE);
        c.due("0 of TYPE -1", m.plain(0, -1, 0), Checks.OUTSIDE);
        c.due("0 of TYPE 5", m.plain(0, 5, 0), Checks.OUTSIDE);
        c.due("0 of ROW that is not there", m.plain(0, ROW, 0), Checks.UNKNOWN);
        c.due("0 of ROW below 0", m.plain(0, ROW, -1), Checks.UNKNOWN);
        c.due("1 of TYPE -1", m.plain(1, -1, 0), Checks.OUTSIDE);
        c.due("1 of VOID", m.plain(1, VOID, 0), Checks.OUTSIDE);
        c.due("12 of TYPE -1", m.plain(12, -1, 0), Checks.OUTSIDE);
        c.due("12 of TYPE 5", m.plain(12, 5, 0), Checks.OUTSIDE);
        c.due("12 by -1", m.plain(12, 0, -1), Checks.OUTSIDE);
        c.due("12 by 100", m.plain(12, 0, 100), Checks.OUTSIDE);
        c.due("refusals make nothing", m.told(0), 0);
        c.due("a is not looked at by 2", m.plain(2, 99, -99), 0);
        c.due("a is not looked at by 13", m.plain(13, -7, 5), 1);
        c.due("12 of VOID by 99", m.plain(12, VOID, 99), 2);
        c.due("1 of ROW looks at no ROW", m.plain(1, ROW, 77), 3);
    }

    private static void full() {
        HandleModels m = new HandleModels();
        for (int k = 0; k < 60; k++) {
            c.due("HANDLE " + k, m.plain(k % 14, 0, 0), k);
        }
        c.due("a 61st", m.plain(2, 0, 0), Checks.FULL);
        c.due("OUTSIDE is ahead of FULL", m.plain(14, 0, 0), Checks.OUTSIDE);
        c.due("UNKNOWN is ahead of FULL", m.plain(0, ROW, 0), Checks.UNKNOWN);
        c.due("still 60", m.told(0), 60);
    }

    private static void types() {
        HandleModels m = new HandleModels();
        m.row(1);
        for (int form = 0; form <= 13; form++) {
            c.due("form " + form, m.plain(form, 0, 0), form);
        }
        c.types("0", m, 0, INT);
        c.types("1", m, 1, INT, INT);
        for (int form = 2; form <= 6; form++) {
            c.types("two INTS " + form, m, form, INT, INT, INT);
        }
        c.types("7", m, 7, LONG, LONG, LONG);
        c.types("8", m, 8, ROW, INT, INT);
        c.types("9", m, 9, ROW, INT, INT, VOID);
        c.types("10", m, 10, ROW, INT);
        c.types("11", m, 11, INT, ROW);
        c.types("12", m, 12, INT);
        c.types("13", m, 13, INT);
        for (int type = 0; type <= 4; type++) {
            c.types("0 of TYPE " + type, m, m.plain(0, type, 0), type);
            c.types("12 of TYPE " + type, m, m.plain(12, type, 0), type);
        }
        for (int type = 0; type <= 3; type++) {
            c.types("1 of TYPE " + type, m, m.plain(1, type, 0), type, type);
        }
    }

    private static void fixedAndSame() {
        HandleModels m = new HandleModels();
        m.row(1);
        m.row(2);
        c.gives("an INT", m, m.plain(0, INT, -5), true, 0, -5);
        c.gives("a LONG", m, m.plain(0, LONG, Integer.MIN_VALUE), true, 1, Integer.MIN_VALUE);
        c.gives("a BOX", m, m.plain(0, BOX, 7), true, 0, 7);
        c.gives("a ROW", m, m.plain(0, ROW, 1), true, 2, 1);
        c.gives("VOID", m, m.plain(0, VOID, 9), true, NOTHING, 0);
        int[][] kinds = {{INT, 0, 5}, {LONG, 1, 6}, {BOX, 0, 7}, {BOX, 1, 8}, {BOX, 3, 0}, {ROW, 2, 1}, {ROW, 3, 0}};
        for (int[] k : kinds) {
            c.values(m, k[1], k[2]);
            c.gives("the same of TYPE " + k[0], m, m.plain(1, k[0], 0), true, k[1], k[2]);
        }
    }

    private static void numbers() {
        HandleModels m = new HandleModels();
        for (int form = 0; form <= 7; form++) {
            m.plain(form, 0, 0);
        }
        int max = Integer.MAX_VALUE;
        int min = Integer.MIN_VALUE;
        int[][] pairs = {{7, 2}, {-7, 2}, {7, -2}, {0, 5}, {max, 1}, {min, -1}, {min, min}, {max, max}, {3, 3}, {65536, 65536}};
        for (int[] p : pairs) {
            String of = " of " + p[0] + ", " + p[1];
            c.ints(m, p[0], p[1]);
            c.gives("plus" + of, m, 2, (int) ((long) p[0] + p[1]));
            c.gives("less" + of, m, 3, (int) ((long) p[0] - p[1]));
            c.gives("times" + of, m, 4, (int) ((long) p[0] * p[1]));
            c.gives("by" + of, m, 5, (int) ((long) p[0] / p[1]));
            c.gives("below" + of, m, 6, p[0] < p[1] ? 1 : 0);
        }
        c.ints(m, 7, 0);
        c.fails("by 0", m, 5, 1);
        c.ints(m, 0, 0);
        c.fails("0 by 0", m, 5, 1);
        c.values(m, 1, Long.MAX_VALUE, 1, 2);
        c.gives("plus of LONGS", m, 7, true, 1, Long.MIN_VALUE + 1);
    }

    private static void rows() {
        HandleModels m = new HandleModels();
        int item = m.plain(8, 0, 0);
        int put = m.plain(9, 0, 0);
        int length = m.plain(10, 0, 0);
        int make = m.plain(11, 0, 0);
        m.row(2);
        m.row(0);
        c.values(m, 2, 0, 0, 1, 0, 42);
        c.givesNothing("put", m, put);
        c.values(m, 2, 0, 0, 1);
        c.gives("item", m, item, 42);
        for (long k : new long[] {-1, 2, Integer.MAX_VALUE, Integer.MIN_VALUE}) {
            c.values(m, 2, 0, 0, k);
            c.fails("item " + k, m, item, 4);
            c.values(m, 2, 0, 0, k, 0, 1);
            c.fails("put " + k, m, put, 4);
        }
        c.values(m, 3, 0, 0, 9);
        c.fails("item of NOTHING", m, item, 3);
        c.values(m, 3, 0, 0, 9, 0, 1);
        c.fails("put into NOTHING", m, put, 3);
        c.values(m, 2, 0);
        c.gives("how long", m, length, 2);
        c.values(m, 2, 1);
        c.gives("how long is none", m, length, 0);
        c.values(m, 3, 0);
        c.fails("how long is NOTHING", m, length, 3);
        newRows(m, make);
    }

    private static void newRows(HandleModels m, int make) {
        c.ints(m, -1);
        c.fails("a ROW of -1", m, make, 5);
        c.ints(m, 21);
        c.fails("a ROW of 21", m, make, 6);
        c.ints(m, 0);
        c.gives("a ROW of none", m, make, true, 2, m.told(1));
        c.due("is empty", m.item(m.told(1) - 1, 0), Checks.UNKNOWN);
        c.ints(m, 20);
        for (int k = m.told(1); k < 60; k++) {
            c.gives("a ROW of 20", m, make, true, 2, k);
        }
        c.due("items are 0", m.item(59, 19), 1);
        c.due("an item", m.result(), 0);
        c.fails("a 61st ROW", m, make, 10);
        c.ints(m, -1);
        c.fails("SIZE is ahead of ROOM", m, make, 5);
        c.ints(m, 21);
        c.fails("ILLEGAL is ahead of ROOM", m, make, 6);
        c.due("60 ROWS", m.told(1), 60);
    }

    private static void failures() {
        HandleModels m = new HandleModels();
        c.fails("by 0", m, m.plain(12, INT, 0), 100);
        c.fails("by 99", m, m.plain(12, ROW, 99), 199);
        c.fails("by 5, VOID", m, m.plain(12, VOID, 5), 105);
    }

    private static void counts() {
        HandleModels m = new HandleModels();
        int one = m.plain(13, 0, 0);
        int two = m.plain(13, 0, 0);
        c.gives("first", m, one, 1);
        c.gives("by another HANDLE", m, two, 2);
        c.gives("again", m, one, 3);
        c.due("told 5", m.told(5), 3);
        c.ints(m, 1);
        c.fails("WRONG does nothing", m, one, 7);
        c.due("told 5 as before", m.told(5), 3);
    }
}
