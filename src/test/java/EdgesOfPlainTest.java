/** The boundary cases of the PLAIN forms 0 to 13. */
public final class EdgesOfPlainTest {
    private static final Checks c = new Checks();
    private static final int INT = 0, LONG = 1, BOX = 2, ROW = 3, VOID = 4;
    private static final int MAX = Integer.MAX_VALUE, MIN = Integer.MIN_VALUE;

    public static void main(String[] args) {
        givesB();
        givesRow();
        givesWhatItTakes();
        cutOff();
        byCutTowardNought();
        below();
        plusOfLongs();
        items();
        puts();
        howLong();
        newRows();
        newRowsWithoutRoom();
        failsByB();
        counts();
        forms();
        c.end();
    }

    private static void givesB() {
        c.says("0 gives b (a TYPE a 0 INT, 1 LONG, 2 BOX: an INT boxed; 3 ROW b; 4 VOID)");
        HandleModels m = new HandleModels();
        for (int b : new int[] {MIN, -1, 0, 1, MAX}) {
            c.gives("an INT " + b, m, m.plain(0, INT, b), true, 0, b);
            c.gives("a LONG " + b, m, m.plain(0, LONG, b), true, 1, b);
            c.gives("an INT boxed " + b, m, m.plain(0, BOX, b), true, 0, b);
            c.gives("VOID " + b, m, m.plain(0, VOID, b), true, 3, 0);
        }
        c.due("TYPE 5", m.plain(0, 5, 0), Checks.OUTSIDE);
        c.due("TYPE -1", m.plain(0, -1, 0), Checks.OUTSIDE);
    }

    private static void givesRow() {
        c.says("UNKNOWN: ROW b");
        HandleModels m = new HandleModels();
        c.due("ROW 0 of none", m.plain(0, ROW, 0), Checks.UNKNOWN);
        m.row(0);
        m.row(1);
        c.gives("ROW 0", m, m.plain(0, ROW, 0), true, 2, 0);
        c.gives("the last one", m, m.plain(0, ROW, 1), true, 2, 1);
        for (int b : new int[] {2, -1, 60, MAX, MIN}) {
            c.due("ROW " + b, m.plain(0, ROW, b), Checks.UNKNOWN);
        }
        c.due("b of another TYPE is no ROW", m.plain(0, LONG, 2), 2);
        c.due("12 gives a ROW, and b is none", m.plain(12, ROW, 2), 3);
    }

    private static void givesWhatItTakes() {
        c.says("1 gives what it takes (TYPE a, 0 to 3)");
        HandleModels m = new HandleModels();
        m.row(0);
        for (int a : new int[] {-1, 4, 5, MAX, MIN}) {
            c.due("TYPE " + a, m.plain(1, a, 0), Checks.OUTSIDE);
        }
        long[][] taken = {{INT, 0, MIN}, {INT, 0, MAX}, {LONG, 1, Long.MIN_VALUE}, {LONG, 1, Long.MAX_VALUE},
            {BOX, 0, MIN}, {BOX, 1, Long.MIN_VALUE}, {BOX, 3, 0}, {ROW, 2, 0}, {ROW, 3, 0}};
        for (long[] t : taken) {
            c.values(m, t[1], t[2]);
            c.gives("TYPE " + t[0] + ", kind " + t[1], m, m.plain(1, (int) t[0], 0), true, (int) t[1], t[2]);
        }
    }

    private static void cutOff() {
        c.says("2 plus, 3 less, 4 times, 5 by (of two INTS an INT, cut off to 32 bits");
        HandleModels m = new HandleModels();
        for (int form = 0; form <= 4; form++) {
            m.plain(form, 0, 0);
        }
        int[][] due = {
            {2, MAX, 1, MIN}, {2, MIN, -1, MAX}, {2, MIN, MIN, 0}, {2, MAX, MAX, -2}, {2, MAX, MIN, -1},
            {3, MIN, 1, MAX}, {3, MAX, -1, MIN}, {3, 0, MIN, MIN}, {3, MAX, MIN, -1}, {3, MIN, MAX, 1},
            {4, MAX, 2, -2}, {4, MIN, -1, MIN}, {4, 65536, 65536, 0}, {4, MAX, MAX, 1}, {4, 46341, 46341, -2147479015},
        };
        for (int[] d : due) {
            c.ints(m, d[1], d[2]);
            c.gives("form " + d[0] + " of " + d[1] + ", " + d[2], m, d[0], d[3]);
        }
    }

    private static void byCutTowardNought() {
        c.says("by: cut toward 0, ARITHMETIC by 0");
        HandleModels m = new HandleModels();
        int by = m.plain(5, 0, 0);
        int[][] due = {{7, 2, 3}, {-7, 2, -3}, {7, -2, -3}, {-7, -2, 3}, {1, 2, 0}, {-1, 2, 0}, {0, MIN, 0},
            {MIN, -1, MIN}, {MIN, 1, MIN}, {MAX, MIN, 0}, {MIN, MAX, -1}, {MAX, -1, -MAX}};
        for (int[] d : due) {
            c.ints(m, d[0], d[1]);
            c.gives(d[0] + " by " + d[1], m, by, d[2]);
        }
        for (int number : new int[] {MIN, -1, 0, 1, MAX}) {
            c.ints(m, number, 0);
            c.fails(number + " by 0", m, by, 1);
            c.due("it is a STEP", m.told(4), 1);
        }
    }

    private static void below() {
        c.says("6 whether the first INT is below the second (1, 0)");
        HandleModels m = new HandleModels();
        int below = m.plain(6, 0, 0);
        int[][] due = {{0, 1, 1}, {1, 0, 0}, {0, 0, 0}, {-1, 0, 1}, {MIN, MAX, 1}, {MAX, MIN, 0}, {MIN, MIN, 0},
            {MAX, MAX, 0}, {MIN, MIN + 1, 1}, {0, MIN, 0}, {-2, MAX, 1}};
        for (int[] d : due) {
            c.ints(m, d[0], d[1]);
            c.gives(d[0] + " below " + d[1], m, below, d[2]);
        }
    }

    private static void plusOfLongs() {
        c.says("7 plus of two LONGS");
        HandleModels m = new HandleModels();
        int plus = m.plain(7, 0, 0);
        long[][] due = {{MAX, 1, 2147483648L}, {MIN, -1, -2147483649L}, {Long.MAX_VALUE, 1, Long.MIN_VALUE},
            {Long.MIN_VALUE, -1, Long.MAX_VALUE}, {Long.MIN_VALUE, Long.MIN_VALUE, 0}, {0, 0, 0}};
        for (long[] d : due) {
            c.values(m, 1, d[0], 1, d[1]);
            c.gives(d[0] + " plus " + d[1], m, plus, true, 1, d[2]);
        }
        c.values(m, 1, 1, 0, 1);
        c.fails("an INT is no LONG", m, plus, 7);
        c.gives("but adapts", m, plus, false, 1, 2);
    }

    private static void items() {
        c.says("8 item of a ROW at an INT .. : NULL, INDEX");
        HandleModels m = new HandleModels();
        int item = m.plain(8, 0, 0);
        m.row(20);
        m.row(0);
        m.row(1);
        m.set(0, 0, 5);
        m.set(0, 19, MIN);
        m.set(2, 0, 6);
        long[][] due = {{0, 0, 5}, {0, 19, MIN}, {0, 1, 0}, {2, 0, 6}};
        for (long[] d : due) {
            c.values(m, 2, d[0], 0, d[1]);
            c.gives("ROW " + d[0] + " at " + d[1], m, item, d[2]);
        }
        long[][] outside = {{0, -1}, {0, 20}, {0, MAX}, {0, MIN}, {1, 0}, {1, -1}, {2, 1}, {2, -1}};
        for (long[] o : outside) {
            c.values(m, 2, o[0], 0, o[1]);
            c.fails("ROW " + o[0] + " at " + o[1], m, item, 4);
        }
        for (int k : new int[] {-1, 0, MAX}) {
            c.values(m, 3, 0, 0, k);
            c.fails("NOTHING at " + k, m, item, 3);
        }
    }

    private static void puts() {
        c.says("9 puts into a ROW at an INT an INT (VOID) .. : NULL, INDEX");
        HandleModels m = new HandleModels();
        int put = m.plain(9, 0, 0);
        m.row(20);
        m.row(0);
        m.row(1);
        for (int k : new int[] {0, 19}) {
            c.values(m, 2, 0, 0, k, 0, MIN + k);
            c.givesNothing("put at " + k, m, put);
            c.item("put at " + k, m, 0, k, MIN + k);
        }
        long[][] outside = {{0, -1}, {0, 20}, {0, MAX}, {0, MIN}, {1, 0}, {2, 1}, {2, -1}};
        for (long[] o : outside) {
            c.values(m, 2, o[0], 0, o[1], 0, 9);
            c.fails("ROW " + o[0] + " at " + o[1], m, put, 4);
        }
        c.values(m, 3, 0, 0, -1, 0, 9);
        c.fails("NULL is ahead of INDEX", m, put, 3);
        for (int k = 1; k <= 18; k++) {
            c.item("none of these is put", m, 0, k, 0);
        }
        c.item("nor into the ROW behind", m, 2, 0, 0);
    }

    private static void howLong() {
        c.says("10 how long a ROW is: NULL");
        HandleModels m = new HandleModels();
        int length = m.plain(10, 0, 0);
        for (int n : new int[] {0, 1, 19, 20}) {
            c.values(m, 2, m.row(n));
            c.gives(n + " long", m, length, n);
        }
        c.values(m, 3, 0);
        c.fails("NOTHING", m, length, 3);
    }

    private static void newRows() {
        c.says("11 a ROW of so many (an INT) 0s: SIZE, above 20 ILLEGAL");
        HandleModels m = new HandleModels();
        int make = m.plain(11, 0, 0);
        for (int n : new int[] {-1, -20, MIN}) {
            c.ints(m, n);
            c.fails("of " + n, m, make, 5);
        }
        for (int n : new int[] {21, 22, MAX}) {
            c.ints(m, n);
            c.fails("of " + n, m, make, 6);
        }
        c.due("none is made", m.told(1), 0);
        int[] lengths = {0, 1, 20};
        for (int row = 0; row < lengths.length; row++) {
            c.ints(m, lengths[row]);
            c.gives("of " + lengths[row], m, make, true, 2, row);
            for (int k = 0; k < lengths[row]; k++) {
                c.item("is 0", m, row, k, 0);
            }
            c.due("no more than " + lengths[row], m.item(row, lengths[row]), Checks.UNKNOWN);
        }
    }

    private static void newRowsWithoutRoom() {
        c.says("11 a ROW of so many (an INT) 0s: SIZE, above 20 ILLEGAL, ROOM");
        HandleModels m = new HandleModels();
        int make = m.plain(11, 0, 0);
        for (int k = 0; k < 60; k++) {
            m.row(0);
        }
        int[][] due = {{-1, 5}, {MIN, 5}, {0, 10}, {20, 10}, {21, 6}, {MAX, 6}};
        for (int[] d : due) {
            c.ints(m, d[0]);
            c.fails("of " + d[0], m, make, d[1]);
        }
    }

    private static void failsByB() {
        c.says("12 fails by b (0 to 99), gives TYPE a");
        HandleModels m = new HandleModels();
        for (int b : new int[] {-1, 100, 199, MAX, MIN}) {
            c.due("by " + b, m.plain(12, INT, b), Checks.OUTSIDE);
        }
        for (int a : new int[] {-1, 5, MAX, MIN}) {
            c.due("TYPE " + a, m.plain(12, a, 0), Checks.OUTSIDE);
        }
        for (int b : new int[] {0, 1, 98, 99}) {
            for (int a = INT; a <= VOID; a++) {
                int fail = m.plain(12, a, b);
                c.fails("by " + b, m, fail, 100 + b);
                c.due("gives TYPE " + a, m.about(fail, 7), a);
            }
        }
    }

    private static void counts() {
        c.says("13 COUNTS: how often this was done, by all HANDLES of form 13, from 1 on");
        HandleModels m = new HandleModels();
        int first = m.plain(13, 0, 0);
        int second = m.plain(13, 0, 0);
        int failing = m.other(3, m.other(1, m.plain(12, INT, 0), 0, 0, 0, INT), second, 0, 0, 0);
        c.due("none at first", m.told(5), 0);
        c.gives("from 1 on", m, first, 1);
        c.gives("by all", m, second, 2);
        c.fails("within one that FAILS", m, failing, 100);
        c.due("counts", m.told(5), 3);
        c.ints(m, 1);
        c.fails("WRONG", m, first, 7);
        c.due("does not count", m.told(5), 3);
        m.clear();
        int third = m.plain(13, 0, 0);
        c.gives("one that is made later counts on", m, third, 4);
        c.due("a STARTER", m.runSite(m.site(first, first), true), 1);
        c.due("counts to 5, the number of the later one", m.linked(0), third);
        c.due("which counts to 6", m.result(), 6);
    }

    private static void forms() {
        c.says("OUTSIDE: the form (0 to 13)");
        HandleModels m = new HandleModels();
        for (int form : new int[] {-1, 14, 15, MAX, MIN}) {
            c.due("form " + form, m.plain(form, 0, 0), Checks.OUTSIDE);
        }
        for (int form = 0; form <= 13; form++) {
            c.due("form " + form, m.plain(form, 0, 0), form);
        }
    }
}
