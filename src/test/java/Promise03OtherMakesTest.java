/** Promise 3: which OTHERS are made, of which TYPES, and which are refused. */
public final class Promise03OtherMakesTest {
    private static final Checks c = new Checks();
    private static final int INT = 0, LONG = 1, BOX = 2, ROW = 3, VOID = 4;
    private static final int GIVE = 0, SAME = 1, PLUS = 2, PLUS_LONG = 7, ITEM = 8, PUT = 9, LENGTH = 10, FAIL = 12;

    public static void main(String[] args) {
        unknown();
        order();
        bound();
        left();
        moved();
        folded();
        siftedAndThen();
        chosen();
        caughtAndEnded();
        round();
        spreadAndGathered();
        adapted();
        c.end();
    }

    private static void unknown() {
        HandleModels m = new HandleModels();
        m.plain(SAME, INT, 0);
        for (int form = -1; form <= 13; form++) {
            c.due("no h, form " + form, m.other(form, 50, 0, 0, 0, 0), Checks.UNKNOWN);
            c.due("h below 0, form " + form, m.other(form, -1, 0, 0, 0, 0), Checks.UNKNOWN);
            boolean looksAtX = form >= 3 && form <= 9 || form == 12;
            boolean looksAtY = form == 6 || form == 9;
            c.due("x, form " + form, m.other(form, 0, 50, 0, -1, 0) == Checks.UNKNOWN ? 1 : 0, looksAtX ? 1 : 0);
            c.due("y, form " + form, m.other(form, 0, 0, -1, -1, 0) == Checks.UNKNOWN ? 1 : 0, looksAtY ? 1 : 0);
        }
        c.due("form -1", m.other(-1, 0, 0, 0, 0, 0), Checks.OUTSIDE);
        c.due("form 13", m.other(13, 0, 0, 0, 0, 0), Checks.OUTSIDE);
    }

    private static void order() {
        HandleModels m = new HandleModels();
        int same = m.plain(SAME, INT, 0);
        int fixed = m.plain(GIVE, INT, 0);
        c.due("UNKNOWN ahead of OUTSIDE", m.other(4, same, 9, 0, 7, 0), Checks.UNKNOWN);
        c.due("OUTSIDE ahead of STATE", m.other(4, same, fixed, 0, 1, 0), Checks.OUTSIDE);
        c.due("STATE", m.other(4, same, fixed, 0, 0, 0), Checks.STATE);
        for (int k = m.told(0); k < 60; k++) {
            m.plain(GIVE, INT, 0);
        }
        c.due("STATE ahead of FULL", m.other(4, same, fixed, 0, 0, 0), Checks.STATE);
        c.due("FULL", m.other(4, same, same, 0, 0, 0), Checks.FULL);
        c.due("no VALUE ahead of FULL", m.other(0, same, 0, 0, 0, 0), Checks.STATE);
        c.due("60 of them", m.told(0), 60);
    }

    private static void bound() {
        HandleModels m = new HandleModels();
        m.row(1);
        int put = m.plain(PUT, 0, 0);
        int fixed = m.plain(GIVE, INT, 0);
        int box = m.plain(SAME, BOX, 0);
        int wide = m.plain(PLUS_LONG, 0, 0);
        c.due("no VALUE", m.other(0, put, 0, 0, 0, 0), Checks.STATE);
        c.due("OUTSIDE ahead of no VALUE", m.other(0, put, 0, 0, 3, 0), Checks.OUTSIDE);
        c.ints(m, 5);
        c.due("place -1", m.other(0, put, 0, 0, -1, 0), Checks.OUTSIDE);
        c.due("place 3", m.other(0, put, 0, 0, 3, 0), Checks.OUTSIDE);
        c.due("no places", m.other(0, fixed, 0, 0, 0, 0), Checks.OUTSIDE);
        c.due("an INT as a ROW", m.other(0, put, 0, 0, 0, 0), Checks.STATE);
        c.types("in the middle", m, m.other(0, put, 0, 0, 1, 0), ROW, INT, VOID);
        c.types("an INT as a LONG", m, m.other(0, wide, 0, 0, 0, 0), LONG, LONG);
        c.types("an INT as a BOX", m, m.other(0, box, 0, 0, 0, 0), BOX);
        c.values(m, 1, 5);
        c.due("a LONG as an INT", m.other(0, put, 0, 0, 1, 0), Checks.STATE);
        c.types("a LONG as a BOX", m, m.other(0, box, 0, 0, 0, 0), BOX);
        c.values(m, 2, 0);
        c.due("a ROW as an INT", m.other(0, put, 0, 0, 1, 0), Checks.STATE);
        c.due("a ROW as a BOX", m.other(0, box, 0, 0, 0, 0), Checks.STATE);
        c.types("a ROW", m, m.other(0, put, 0, 0, 0, 0), INT, INT, VOID);
        c.values(m, 3, 0);
        c.due("NOTHING as an INT", m.other(0, put, 0, 0, 1, 0), Checks.STATE);
        c.due("NOTHING as a LONG", m.other(0, wide, 0, 0, 1, 0), Checks.STATE);
        c.types("NOTHING as a ROW", m, m.other(0, put, 0, 0, 0, 0), INT, INT, VOID);
        c.types("NOTHING as a BOX", m, m.other(0, box, 0, 0, 0, 0), BOX);
    }

    private static void left() {
        HandleModels m = new HandleModels();
        int item = m.plain(ITEM, 0, 0);
        c.due("place -1", m.other(1, item, 0, 0, -1, 0), Checks.OUTSIDE);
        c.due("place 3", m.other(1, item, 0, 0, 3, 0), Checks.OUTSIDE);
        c.due("TYPE -1", m.other(1, item, 0, 0, 0, -1), Checks.OUTSIDE);
        c.due("VOID", m.other(1, item, 0, 0, 0, VOID), Checks.OUTSIDE);
        c.types("first", m, m.other(1, item, 0, 0, 0, BOX), BOX, ROW, INT, INT);
        c.types("middle", m, m.other(1, item, 0, 0, 1, LONG), ROW, LONG, INT, INT);
        c.types("last", m, m.other(1, item, 0, 0, 2, ROW), ROW, INT, ROW, INT);
        int six = c.shape(m, INT, INT, INT, INT, INT, INT, INT);
        c.due("more than 6", m.other(1, six, 0, 0, 6, 0), Checks.STATE);
        c.due("place 7", m.other(1, six, 0, 0, 7, 0), Checks.OUTSIDE);
    }

    private static void moved() {
        HandleModels m = new HandleModels();
        int three = c.shape(m, INT, LONG, ROW, BOX);
        int none = m.plain(GIVE, INT, 0);
        int one = m.plain(SAME, LONG, 0);
        int six = c.shape(m, INT, LONG, BOX, ROW, INT, LONG, VOID);
        c.types("as they are", m, m.other(2, three, 0, 0, 12, 0), INT, LONG, ROW, BOX);
        c.types("VALUE 0 of h is at place 2", m, m.other(2, three, 0, 0, 201, 0), LONG, ROW, INT, BOX);
        c.types("back", m, m.other(2, three, 0, 0, 210, 0), ROW, LONG, INT, BOX);
        c.types("none", m, m.other(2, none, 0, 0, 0, 0), INT);
        c.types("one", m, m.other(2, one, 0, 0, 0, 0), LONG, LONG);
        c.types("six", m, m.other(2, six, 0, 0, 543210, 0), LONG, INT, ROW, BOX, LONG, INT, VOID);
        int[] wrong = {-1, 0, 1, 13, 112, 100, 222, 1012, 312, 99999, -12, -210, Integer.MAX_VALUE, Integer.MIN_VALUE};
        for (int a : wrong) {
            c.due("digits " + a, m.other(2, three, 0, 0, a, 0), Checks.OUTSIDE);
        }
        c.due("none, 1", m.other(2, none, 0, 0, 1, 0), Checks.OUTSIDE);
        c.due("none, -1", m.other(2, none, 0, 0, -1, 0), Checks.OUTSIDE);
        c.due("one, 1", m.other(2, one, 0, 0, 1, 0), Checks.OUTSIDE);
        c.due("one, 10", m.other(2, one, 0, 0, 10, 0), Checks.OUTSIDE);
        c.due("six, seven digits", m.other(2, six, 0, 0, 1543210, 0), Checks.OUTSIDE);
    }

    private static void folded() {
        HandleModels m = new HandleModels();
        int h = c.shape(m, INT, LONG, ROW, BOX);
        int none = m.plain(GIVE, INT, 0);
        c.types("all behind", m, m.other(3, h, c.shape(m, LONG, ROW, INT), 0, 0, 0), LONG, ROW, BOX);
        c.types("its first ones", m, m.other(3, h, c.shape(m, LONG, INT), 0, 0, 0), LONG, ROW, BOX);
        c.types("none of them", m, m.other(3, h, none, 0, 0, 0), LONG, ROW, BOX);
        c.types("VOID, all", m, m.other(3, h, c.shape(m, INT, LONG, ROW, VOID), 0, 0, 0), INT, LONG, ROW, BOX);
        c.types("VOID, its first one", m, m.other(3, h, c.shape(m, INT, VOID), 0, 0, 0), INT, LONG, ROW, BOX);
        c.types("VOID ahead of none", m, m.other(3, none, c.shape(m, VOID), 0, 0, 0), INT);
        c.due("not the first ones", m.other(3, h, c.shape(m, ROW, INT), 0, 0, 0), Checks.STATE);
        c.due("too many", m.other(3, h, c.shape(m, LONG, ROW, INT, INT), 0, 0, 0), Checks.STATE);
        c.due("gives another TYPE", m.other(3, h, c.shape(m, LONG, LONG), 0, 0, 0), Checks.STATE);
        c.due("VOID, behind its first one", m.other(3, h, c.shape(m, LONG, VOID), 0, 0, 0), Checks.STATE);
        c.due("h takes none", m.other(3, none, none, 0, 0, 0), Checks.STATE);
    }

    private static void siftedAndThen() {
        HandleModels m = new HandleModels();
        int item = m.plain(ITEM, 0, 0);
        int length = m.plain(LENGTH, 0, 0);
        int none = m.plain(GIVE, INT, 0);
        int empty = m.plain(GIVE, VOID, 0);
        int put = m.plain(PUT, 0, 0);
        int plus = m.plain(PLUS, 0, 0);
        c.types("SIFTED", m, m.other(4, item, length, 0, 1, 0), ROW, ROW, INT);
        c.due("another TYPE there", m.other(4, item, length, 0, 0, 0), Checks.STATE);
        c.due("place -1", m.other(4, item, length, 0, -1, 0), Checks.OUTSIDE);
        c.due("place 2", m.other(4, item, length, 0, 2, 0), Checks.OUTSIDE);
        c.due("h takes none", m.other(4, none, length, 0, 0, 0), Checks.OUTSIDE);
        c.due("x takes none", m.other(4, item, none, 0, 1, 0), Checks.STATE);
        c.due("x takes two", m.other(4, item, plus, 0, 1, 0), Checks.STATE);
        c.types("THEN", m, m.other(5, c.shape(m, LONG, BOX, ROW), length, 0, 0, 0), LONG, BOX, INT);
        c.types("THEN of VOID", m, m.other(5, put, none, 0, 0, 0), ROW, INT, INT, INT);
        c.types("THEN VOID", m, m.other(5, none, c.shape(m, INT, VOID), 0, 0, 0), VOID);
        c.types("VOID THEN VOID", m, m.other(5, empty, empty, 0, 0, 0), VOID);
        c.due("THEN of another TYPE", m.other(5, plus, length, 0, 0, 0), Checks.STATE);
        c.due("THEN x takes two", m.other(5, plus, plus, 0, 0, 0), Checks.STATE);
        c.due("THEN x takes none", m.other(5, plus, none, 0, 0, 0), Checks.STATE);
        c.due("THEN of VOID, x takes one", m.other(5, put, length, 0, 0, 0), Checks.STATE);
    }

    private static void chosen() {
        HandleModels m = new HandleModels();
        int x = c.shape(m, INT, ROW, LONG);
        int y = c.shape(m, INT, ROW, LONG);
        int none = m.plain(GIVE, INT, 0);
        c.types("takes none", m, m.other(6, none, x, y, 0, 0), INT, ROW, LONG);
        c.types("takes the first one", m, m.other(6, c.shape(m, INT, INT), x, y, 0, 0), INT, ROW, LONG);
        c.types("takes all", m, m.other(6, c.shape(m, INT, ROW, INT), x, x, 0, 0), INT, ROW, LONG);
        c.due("gives a LONG", m.other(6, c.shape(m, INT, LONG), x, y, 0, 0), Checks.STATE);
        c.due("takes another one", m.other(6, c.shape(m, ROW, INT), x, y, 0, 0), Checks.STATE);
        c.due("takes more", m.other(6, c.shape(m, INT, ROW, INT, INT), x, y, 0, 0), Checks.STATE);
        c.due("y takes other ones", m.other(6, none, x, c.shape(m, INT, LONG), 0, 0), Checks.STATE);
        c.due("y takes others", m.other(6, none, x, c.shape(m, INT, BOX, LONG), 0, 0), Checks.STATE);
        c.due("y gives another one", m.other(6, none, x, c.shape(m, INT, ROW, VOID), 0, 0), Checks.STATE);
    }

    private static void caughtAndEnded() {
        HandleModels m = new HandleModels();
        int h = c.shape(m, LONG, ROW, BOX);
        int x = c.shape(m, INT, LONG, ROW, BOX);
        int last = c.shape(m, INT, LONG, ROW, VOID);
        for (int a : new int[] {0, 1, 6, 100, 199}) {
            c.types("CAUGHT by " + a, m, m.other(7, h, x, 0, a, 0), LONG, ROW, BOX);
        }
        for (int a : new int[] {-1, 7, 10, 99, 200, Integer.MIN_VALUE}) {
            c.due("CAUGHT by " + a, m.other(7, h, x, 0, a, 0), Checks.OUTSIDE);
        }
        c.due("CAUGHT, gives another one", m.other(7, h, last, 0, 0, 0), Checks.STATE);
        c.due("CAUGHT, takes no number", m.other(7, h, h, 0, 0, 0), Checks.STATE);
        c.due("CAUGHT, takes but some", m.other(7, h, c.shape(m, INT, LONG, BOX), 0, 0, 0), Checks.STATE);
        c.types("ENDED", m, m.other(8, h, last, 0, 0, 0), LONG, ROW, BOX);
        c.due("ENDED is not VOID", m.other(8, h, x, 0, 0, 0), Checks.STATE);
        c.due("ENDED, takes a LONG first", m.other(8, h, c.shape(m, LONG, LONG, ROW, VOID), 0, 0, 0), Checks.STATE);
        int six = c.shape(m, INT, INT, INT, INT, INT, INT, VOID);
        c.due("CAUGHT, no x takes 7", m.other(7, six, six, 0, 0, 0), Checks.STATE);
        c.due("ENDED, no x takes 7", m.other(8, six, six, 0, 0, 0), Checks.STATE);
    }

    private static void round() {
        HandleModels m = new HandleModels();
        int n = m.plain(GIVE, INT, 3);
        int x = c.shape(m, LONG, INT, LONG);
        int y = m.plain(GIVE, LONG, 0);
        int empty = m.plain(GIVE, VOID, 0);
        c.types("ROUND", m, m.other(9, n, x, y, 0, 0), LONG);
        c.due("n is a LONG", m.other(9, y, x, y, 0, 0), Checks.STATE);
        c.due("n takes one", m.other(9, c.shape(m, INT, INT), x, y, 0, 0), Checks.STATE);
        c.due("y gives another one", m.other(9, n, x, n, 0, 0), Checks.STATE);
        c.due("y takes one", m.other(9, n, x, c.shape(m, INT, LONG), 0, 0), Checks.STATE);
        c.due("x gives another one", m.other(9, n, c.shape(m, LONG, INT, INT), y, 0, 0), Checks.STATE);
        c.due("x takes no number", m.other(9, n, c.shape(m, LONG, LONG), y, 0, 0), Checks.STATE);
        c.due("x takes a LONG second", m.other(9, n, c.shape(m, LONG, LONG, LONG), y, 0, 0), Checks.STATE);
        c.due("x takes three", m.other(9, n, c.shape(m, LONG, INT, INT, LONG), y, 0, 0), Checks.STATE);
        c.due("VOID", m.other(9, n, c.shape(m, INT, VOID), empty, 0, 0), Checks.STATE);
    }

    private static void spreadAndGathered() {
        HandleModels m = new HandleModels();
        int plus = m.plain(PLUS, 0, 0);
        int put = m.plain(PUT, 0, 0);
        int six = c.shape(m, INT, INT, INT, INT, INT, INT, BOX);
        int none = m.plain(GIVE, INT, 0);
        c.types("SPREAD 2", m, m.other(10, plus, 0, 0, 2, 0), ROW, INT);
        c.types("SPREAD 1", m, m.other(10, plus, 0, 0, 1, 0), INT, ROW, INT);
        c.types("SPREAD 6", m, m.other(10, six, 0, 0, 6, 0), ROW, BOX);
        c.types("SPREAD of PUT", m, m.other(10, put, 0, 0, 2, 0), ROW, ROW, VOID);
        c.due("SPREAD 0", m.other(10, plus, 0, 0, 0, 0), Checks.OUTSIDE);
        c.due("SPREAD 7", m.other(10, six, 0, 0, 7, 0), Checks.OUTSIDE);
        c.due("SPREAD more than it takes", m.other(10, plus, 0, 0, 3, 0), Checks.STATE);
        c.due("SPREAD, not all INTS", m.other(10, put, 0, 0, 3, 0), Checks.STATE);
        c.due("SPREAD of none", m.other(10, none, 0, 0, 1, 0), Checks.STATE);
        int last = c.shape(m, LONG, BOX, ROW, INT);
        c.types("GATHERED 0", m, m.other(11, last, 0, 0, 0, 0), LONG, BOX, INT);
        c.types("GATHERED 4", m, m.other(11, last, 0, 0, 4, 0), LONG, BOX, INT, INT, INT, INT, INT);
        c.types("GATHERED 5", m, m.other(11, m.plain(LENGTH, 0, 0), 0, 0, 5, 0), INT, INT, INT, INT, INT, INT);
        c.due("GATHERED 5 to 7 in all", m.other(11, last, 0, 0, 5, 0), Checks.STATE);
        c.due("GATHERED -1", m.other(11, last, 0, 0, -1, 0), Checks.OUTSIDE);
        c.due("GATHERED 6", m.other(11, last, 0, 0, 6, 0), Checks.OUTSIDE);
        c.due("GATHERED, the last is an INT", m.other(11, plus, 0, 0, 1, 0), Checks.STATE);
        c.due("GATHERED of none", m.other(11, none, 0, 0, 1, 0), Checks.STATE);
    }

    private static void adapted() {
        boolean[][] fits = {
            // to INT, LONG, BOX, ROW, VOID
            {true, true, true, false, true},
            {false, true, true, false, true},
            {true, true, true, false, true},
            {false, false, false, true, true},
            {true, true, true, true, true},
        };
        for (int from = INT; from <= VOID; from++) {
            for (int to = INT; to <= VOID; to++) {
                HandleModels m = new HandleModels();
                int h = m.plain(FAIL, from, 0);
                int x = m.plain(FAIL, to, 0);
                c.due("gives " + from + " as " + to, m.other(12, h, x, 0, 0, 0), fits[from][to] ? 2 : Checks.STATE);
                if (from != VOID && to != VOID) {
                    int inner = c.shape(m, to, INT);
                    int outer = c.shape(m, from, INT);
                    int made = m.other(12, inner, outer, 0, 0, 0);
                    c.due("takes " + from + " as " + to, made, fits[from][to] ? outer + 1 : Checks.STATE);
                }
            }
        }
        HandleModels m = new HandleModels();
        int made = m.other(12, c.shape(m, BOX, LONG, ROW, VOID), c.shape(m, LONG, INT, ROW, BOX), 0, 0, 0);
        c.types("ADAPTED", m, made, LONG, INT, ROW, BOX);
        c.due("fewer", m.other(12, c.shape(m, INT, INT), c.shape(m, INT), 0, 0, 0), Checks.STATE);
        c.due("more", m.other(12, c.shape(m, INT), c.shape(m, INT, INT), 0, 0, 0), Checks.STATE);
    }
}
