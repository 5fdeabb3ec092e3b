/** The boundary cases of doing OTHERS 0 to 12: what is done, in which order, how often, and by what they FAIL. */
public final class EdgesOfOthersDoneTest {
    private static final Checks c = new Checks();
    private static final int INT = 0, LONG = 1, BOX = 2, ROW = 3, VOID = 4;
    private static final int MAX = Integer.MAX_VALUE, MIN = Integer.MIN_VALUE;
    private static final int[] CATCHABLE = {1, 2, 3, 4, 5, 6, 100, 199};

    public static void main(String[] args) {
        bound();
        left();
        moved();
        folded();
        foldedFails();
        sifted();
        then();
        chosen();
        caughtByEach();
        caughtWithValues();
        caughtOnce();
        notCaught();
        endedTold();
        endedTold99();
        endedInAnyCase();
        endedGivesWhatHGave();
        roundNone();
        roundCounts();
        roundOfTypes();
        spread();
        spreadSix();
        gathered();
        gatheredStays();
        adaptedInOrder();
        adaptedGiven();
        partsTakeTheirOwn();
        partsTakeNothing();
        c.end();
    }

    /** A HANDLE that takes nothing, gives an INT, and FAILS by one of those that may be caught. */
    private static int failing(HandleModels m, int by) {
        int length = m.plain(10, 0, 0);
        switch (by) {
            case 1: return bind(m, bind(m, m.plain(5, 0, 0), 0, 7), 0, 0);
            case 2: return m.other(12, m.other(12, m.plain(0, LONG, 1), m.plain(0, BOX, 0), 0, 0, 0), m.plain(0, INT, 0), 0, 0, 0);
            case 3: return bind(m, length, 3, 0);
            case 4: return bind(m, bind(m, m.plain(8, 0, 0), 2, m.row(1)), 0, -1);
            case 5: return m.other(5, bind(m, m.plain(11, 0, 0), 0, -1), length, 0, 0, 0);
            case 6: return m.other(5, bind(m, m.plain(11, 0, 0), 0, 21), length, 0, 0, 0);
            default: return m.plain(12, INT, by - 100);
        }
    }

    /** BOUND in place 0. */
    private static int bind(HandleModels m, int h, int kind, long number) {
        c.values(m, kind, number);
        int made = m.other(0, h, 0, 0, 0, 0);
        m.clear();
        return made;
    }

    private static void bound() {
        c.says("0 BOUND: h with VALUE 0 in place a (it ADAPTS to the TYPE there, as it is bound");
        HandleModels m = new HandleModels();
        int less = m.plain(3, 0, 0);
        c.ints(m, 100, 7, 8);
        int first = m.other(0, less, 0, 0, 0, 0);
        int last = m.other(0, less, 0, 0, 1, 0);
        c.ints(m, 30);
        c.gives("VALUE 0 in the first place, as it was", m, first, 70);
        c.gives("VALUE 0 in the last place, as it was", m, last, -70);
        int wide = bind(m, m.plain(1, LONG, 0), 0, MIN);
        c.gives("an INT is a LONG as it is bound", m, wide, true, 1, MIN);
        int box = bind(m, m.plain(1, BOX, 0), 1, Long.MIN_VALUE);
        c.gives("a LONG stays one in a BOX", m, box, true, 1, Long.MIN_VALUE);
        c.fails("so it is CAST", m, m.other(12, box, m.plain(0, INT, 0), 0, 0, 0), 2);
        int nothing = bind(m, m.plain(1, BOX, 0), 3, 9);
        c.gives("NOTHING in a BOX", m, nothing, true, 3, 0);
        c.fails("so it is NULL", m, m.other(12, nothing, m.plain(0, LONG, 0), 0, 0, 0), 3);
        c.fails("NOTHING as a ROW", m, bind(m, m.plain(10, 0, 0), 3, 0), 3);
    }

    private static void left() {
        c.says("1 LEFT: a VALUE of TYPE b (0 to 3) comes at place a .., and is left out");
        HandleModels m = new HandleModels();
        int six = m.plain(3, 0, 0);
        int[] places = {0, 1, 4, 4};
        int[] types = {LONG, BOX, ROW, ROW};
        for (int k = 0; k < places.length; k++) {
            six = m.other(1, six, 0, 0, places[k], types[k]);
        }
        c.types("two INTS among six", m, six, LONG, BOX, INT, INT, ROW, ROW, INT);
        m.row(0);
        c.values(m, 1, 5, 3, 0, 0, 50, 0, 8, 3, 0, 2, 0);
        c.gives("50 less 8", m, six, 42);
        c.due("four LEFT and less", m.told(4), 5);
        c.values(m, 0, 5, 3, 0, 0, 50, 0, 8, 3, 0, 2, 0);
        c.fails("what is left out is of its TYPE too", m, six, 7);
    }

    private static void moved() {
        c.says("VALUE k of h is that at the k-th digit of a");
        HandleModels m = new HandleModels();
        int gather = m.other(11, m.plain(1, ROW, 0), 0, 0, 5, 0);
        int[][] due = {{1234, 0, 1, 2, 3, 4}, {43210, 4, 3, 2, 1, 0}, {12340, 1, 2, 3, 4, 0}, {40123, 4, 0, 1, 2, 3},
            {20413, 2, 0, 4, 1, 3}};
        for (int row = 0; row < due.length; row++) {
            c.ints(m, 10, 11, 12, 13, 14);
            c.gives("a ROW", m, m.other(2, gather, 0, 0, due[row][0], 0), true, 2, row);
            for (int k = 0; k < 5; k++) {
                c.item("digits " + due[row][0] + ", VALUE " + k, m, row, k, 10 + due[row][k + 1]);
            }
        }
    }

    private static void folded() {
        c.says("x is done with them, then h with what it gave, and them");
        HandleModels m = new HandleModels();
        int gather = m.other(11, m.plain(1, ROW, 0), 0, 0, 5, 0);
        int plus = m.plain(2, 0, 0);
        int all = m.other(1, m.other(1, plus, 0, 0, 0, INT), 0, 0, 0, INT);
        int[] parts = {m.plain(13, 0, 0), m.plain(1, INT, 0), plus, all};
        int[] first = {1, 10, 21, 25};
        for (int k = 0; k < parts.length; k++) {
            c.ints(m, 10, 11, 12, 13);
            c.gives("x takes some", m, m.other(3, gather, parts[k], 0, 0, 0), true, 2, k);
            c.item("what x gave comes first", m, k, 0, first[k]);
            for (int behind = 1; behind <= 4; behind++) {
                c.item("then they", m, k, behind, 9 + behind);
            }
        }
    }

    private static void foldedFails() {
        c.says("x is done with them, then h");
        HandleModels m = new HandleModels();
        int count = m.plain(13, 0, 0);
        int fail = m.plain(12, INT, 1);
        int ahead = m.other(3, m.other(1, count, 0, 0, 0, INT), fail, 0, 0, 0);
        int behind = m.other(3, m.other(1, fail, 0, 0, 0, INT), count, 0, 0, 0);
        c.fails("x FAILS", m, ahead, 101);
        c.due("h is not done", m.told(5), 0);
        c.fails("h FAILS", m, behind, 101);
        c.due("x was done ahead", m.told(5), 1);
        int empty = m.other(12, count, m.plain(0, VOID, 0), 0, 0, 0);
        c.gives("VOID is done ahead: 2, then 3", m, m.other(3, count, empty, 0, 0, 0), 3);
        int failed = m.plain(12, VOID, 2);
        c.fails("VOID FAILS ahead", m, m.other(3, count, failed, 0, 0, 0), 102);
        c.due("h is not done either", m.told(5), 3);
    }

    private static void sifted() {
        c.says("4 SIFTED: VALUE at place a goes through x");
        HandleModels m = new HandleModels();
        int gather = m.other(11, m.plain(1, ROW, 0), 0, 0, 3, 0);
        int length = m.plain(10, 0, 0);
        m.row(20);
        for (int a = 0; a < 3; a++) {
            int sifted = m.other(4, gather, length, 0, a, 0);
            long[] values = {0, 10, 0, 11, 0, 12};
            values[2 * a] = 2;
            values[2 * a + 1] = 0;
            c.values(m, values);
            c.gives("place " + a, m, sifted, true, 2, a + 1);
            for (int k = 0; k < 3; k++) {
                c.item("place " + a + ", VALUE " + k, m, a + 1, k, k == a ? 20 : 10 + k);
            }
            values[2 * a] = 3;
            c.values(m, values);
            c.fails("x FAILS ahead of h", m, sifted, 3);
            c.due("no ROW is made", m.told(1), a + 2);
        }
    }

    private static void then() {
        c.says("5 THEN x: what h gives goes through x (takes one of that TYPE; none of VOID).");
        HandleModels m = new HandleModels();
        int count = m.plain(13, 0, 0);
        int fail = m.plain(12, VOID, 3);
        int empty = m.plain(0, VOID, 5);
        c.gives("of VOID, x takes none", m, m.other(5, empty, count, 0, 0, 0), 1);
        c.fails("h FAILS", m, m.other(5, fail, count, 0, 0, 0), 103);
        c.due("x is not done", m.told(5), 1);
        int box = m.other(12, empty, m.plain(0, BOX, 0), 0, 0, 0);
        c.gives("NOTHING goes through x", m, m.other(5, box, m.plain(1, BOX, 0), 0, 0, 0), true, 3, 0);
        int row = m.other(12, empty, m.plain(12, ROW, 0), 0, 0, 0);
        c.fails("NOTHING as a ROW", m, m.other(5, row, m.plain(10, 0, 0), 0, 0, 0), 3);
    }

    private static void chosen() {
        c.says("x, if that is not 0, else y");
        HandleModels m = new HandleModels();
        int same = m.plain(1, INT, 0);
        int x = m.other(1, m.plain(0, INT, 10), 0, 0, 0, INT);
        int y = m.other(1, m.plain(0, INT, 20), 0, 0, 0, INT);
        int chosen = m.other(6, same, x, y, 0, 0);
        for (int test : new int[] {1, -1, 2, MAX, MIN, 256, 65536}) {
            c.ints(m, test);
            c.gives("of " + test, m, chosen, 10);
        }
        c.ints(m, 0);
        c.gives("of 0", m, chosen, 20);
        m.clear();
        int fail = m.plain(12, INT, 9);
        int count = m.plain(13, 0, 0);
        int one = m.plain(0, INT, 1);
        int nought = m.plain(0, INT, 0);
        c.gives("y is not done", m, m.other(6, one, count, fail, 0, 0), 1);
        c.gives("x is not done", m, m.other(6, nought, fail, count, 0, 0), 2);
        c.fails("h FAILS", m, m.other(6, fail, count, count, 0, 0), 109);
        c.due("none is done", m.told(5), 2);
    }

    private static void caughtByEach() {
        c.says("7 CAUGHT: where h FAILS by a (1 to 6, 100 to 199; 0: any of these), x is done with that number (an INT)");
        for (int by : CATCHABLE) {
            HandleModels m = new HandleModels();
            int h = failing(m, by);
            int x = m.plain(1, INT, 0);
            c.fails("by " + by, m, h, by);
            c.gives("any, by " + by, m, m.other(7, h, x, 0, 0, 0), by);
            for (int a : CATCHABLE) {
                int caught = m.other(7, h, x, 0, a, 0);
                if (a == by) {
                    c.gives("by " + by + ", caught", m, caught, by);
                } else {
                    c.fails("by " + by + ", not caught by " + a, m, caught, by);
                }
            }
        }
    }

    private static void caughtWithValues() {
        c.says("x is done with that number (an INT) and the VALUES");
        HandleModels m = new HandleModels();
        int five = c.shape(m, INT, INT, INT, INT, INT, ROW);
        int x = m.other(1, m.other(11, m.plain(1, ROW, 0), 0, 0, 5, 0), 0, 0, 1, INT);
        c.types("x takes six", m, x, INT, INT, INT, INT, INT, INT, ROW);
        c.ints(m, 50, 51, 52, 53, 54);
        c.gives("five VALUES", m, m.other(7, five, x, 0, 100, 0), true, 2, 0);
        int[] due = {100, 51, 52, 53, 54};
        for (int k = 0; k < 5; k++) {
            c.item("VALUE " + k + " of x", m, 0, k, due[k]);
        }
    }

    private static void caughtOnce() {
        c.says("where h FAILS by a");
        HandleModels m = new HandleModels();
        int same = m.plain(1, INT, 0);
        int count = m.other(1, m.plain(13, 0, 0), 0, 0, 0, INT);
        int fail = m.plain(12, INT, 1);
        int again = m.other(1, fail, 0, 0, 0, INT);
        int caught = m.other(7, fail, again, 0, 0, 0);
        c.fails("x FAILS by the same", m, caught, 101);
        c.gives("another one around it", m, m.other(7, caught, same, 0, 101, 0), 101);
        c.gives("h does not FAIL", m, m.other(7, m.plain(0, INT, 8), count, 0, 0, 0), 8);
        c.fails("h FAILS by another", m, m.other(7, fail, count, 0, 100, 0), 101);
        c.due("x was not done", m.told(5), 0);
    }

    private static void notCaught() {
        c.says("SPENT, WRONG, LINK, ROOM are not caught.");
        HandleModels m = new HandleModels();
        int nought = m.plain(0, INT, 0);
        int spent = m.other(9, m.plain(0, INT, MAX), m.plain(2, 0, 0), nought, 0, 0);
        int instead = m.other(1, m.plain(13, 0, 0), 0, 0, 0, INT);
        int caught = m.other(7, spent, instead, 0, 0, 0);
        c.fails("SPENT", m, caught, 9);
        c.due("the 81st STEP is the last one", m.told(4), 81);
        int same = m.plain(1, INT, 0);
        int wrong = m.other(7, same, m.other(1, instead, 0, 0, 0, INT), 0, 0, 0);
        c.values(m, 1, 5);
        c.fails("WRONG", m, wrong, 7);
        c.fails("WRONG, adapting", m, wrong, false, 7);
        m.clear();
        c.fails("WRONG, none", m, wrong, 7);
        int starter = m.other(7, m.plain(0, INT, 99), instead, 0, 0, 0);
        c.due("LINK", m.runSite(m.site(nought, starter), true), -18);
        int make = m.other(11, m.plain(10, 0, 0), 0, 0, 0, 0);
        for (int k = 0; k < 60; k++) {
            m.row(0);
        }
        c.fails("ROOM", m, m.other(7, make, instead, 0, 0, 0), 10);
        c.due("x was never done", m.told(5), 0);
    }

    /** A VOID HANDLE that puts the INT that it takes into item 0 of a new ROW. */
    private static int keeper(HandleModels m, int row) {
        int put = bind(m, m.plain(9, 0, 0), 2, row);
        return bind(m, put, 0, 0);
    }

    private static void endedTold() {
        c.says("8 ENDED: h; then in any case x with by what it FAILED (0: not");
        for (int by : CATCHABLE) {
            HandleModels m = new HandleModels();
            int h = failing(m, by);
            int row = m.row(1);
            int keep = keeper(m, row);
            m.set(row, 0, -1);
            c.fails("FAILED by " + by, m, m.other(8, h, keep, 0, 0, 0), by);
            c.item("x has the number", m, row, 0, by);
            c.gives("not FAILED", m, m.other(8, m.plain(0, INT, 6), keep, 0, 0, 0), 6);
            c.item("x has 0", m, row, 0, 0);
        }
    }

    private static void endedTold99() {
        c.says("99: by 7 to 10");
        HandleModels m = new HandleModels();
        int row = m.row(1);
        int keep = keeper(m, row);
        int make = m.other(11, m.plain(10, 0, 0), 0, 0, 0, 0);
        for (int k = 1; k < 60; k++) {
            m.row(0);
        }
        c.fails("ROOM", m, m.other(8, make, keep, 0, 0, 0), 10);
        c.item("ROOM is told as 99", m, row, 0, 99);
        int fail = m.other(1, m.plain(12, VOID, 7), 0, 0, 0, INT);
        c.fails("in place of ROOM", m, m.other(8, make, fail, 0, 0, 0), 107);
        m.set(row, 0, -1);
        int spent = m.other(9, m.plain(0, INT, 78), m.plain(2, 0, 0), m.plain(0, INT, 0), 0, 0);
        c.fails("SPENT leaves no STEP for x", m, m.other(8, spent, keep, 0, 0, 0), 9);
        c.item("so x puts nothing", m, row, 0, -1);
        c.fails("nor can x FAIL by its own", m, m.other(8, spent, fail, 0, 0, 0), 9);
    }

    private static void endedInAnyCase() {
        c.says("what x FAILS by is in place of it");
        HandleModels m = new HandleModels();
        int fail = m.plain(12, INT, 1);
        int fine = m.plain(0, INT, 5);
        int last = m.other(1, m.plain(12, VOID, 2), 0, 0, 0, INT);
        int quiet = m.other(1, m.plain(0, VOID, 0), 0, 0, 0, INT);
        c.fails("both FAIL", m, m.other(8, fail, last, 0, 0, 0), 102);
        c.fails("x FAILS", m, m.other(8, fine, last, 0, 0, 0), 102);
        c.fails("h FAILS", m, m.other(8, fail, quiet, 0, 0, 0), 101);
        c.gives("none FAILS", m, m.other(8, fine, quiet, 0, 0, 0), 5);
        c.due("ENDED, h, LEFT, PLAIN 0", m.told(4), 4);
        int five = c.shape(m, INT, INT, INT, INT, INT, VOID);
        int six = c.shape(m, INT, INT, INT, INT, INT, INT, VOID);
        c.ints(m, 1, 2, 3, 4, 5);
        c.fails("five VALUES, and the number", m, m.other(8, five, six, 0, 0, 0), 100);
        c.due("ENDED, six of h, seven of x", m.told(4), 14);
    }

    private static void endedGivesWhatHGave() {
        c.says("8 ENDED: h; then in any case x");
        HandleModels m = new HandleModels();
        m.row(3);
        int count = m.plain(13, 0, 0);
        int x = m.other(1, m.other(12, count, m.plain(0, VOID, 0), 0, 0, 0), 0, 0, 0, INT);
        int[] kinds = {0, 1, 0, 2, 3};
        for (int type = INT; type <= VOID; type++) {
            c.gives("TYPE " + type, m, m.other(8, m.plain(0, type, 0), x, 0, 0, 0), true, kinds[type], 0);
            c.due("x is done", m.told(5), type + 1);
        }
        int box = m.other(12, m.plain(0, LONG, 7), m.plain(0, BOX, 0), 0, 0, 0);
        c.gives("a LONG boxed", m, m.other(8, box, x, 0, 0, 0), true, 1, 7);
    }

    private static void roundNone() {
        c.says("x n times (none below 1)");
        HandleModels m = new HandleModels();
        int plus = m.plain(2, 0, 0);
        int y = m.plain(0, INT, 100);
        int[][] due = {{MIN, 100, 3}, {-1, 100, 3}, {0, 100, 3}, {1, 100, 4}, {2, 101, 5}, {3, 103, 6}, {77, 100 + 2926, 80}};
        for (int[] d : due) {
            c.gives("n is " + d[0], m, m.other(9, m.plain(0, INT, d[0]), plus, y, 0, 0), d[1]);
            c.due("STEPS", m.told(4), d[2]);
        }
        for (int n : new int[] {78, 79, 80, 81, 1000, MAX}) {
            c.fails("n is " + n, m, m.other(9, m.plain(0, INT, n), plus, y, 0, 0), 9);
            c.due("SPENT", m.told(4), 81);
        }
    }

    private static void roundCounts() {
        c.says("h is done, then y; x n times .. with what came last, and 0, 1, ..: what came last");
        HandleModels m = new HandleModels();
        int row = m.row(1);
        m.set(row, 0, 3);
        int count = m.plain(13, 0, 0);
        int item = bind(m, bind(m, m.plain(8, 0, 0), 2, row), 0, 0);
        int times = m.other(3, m.other(1, m.plain(4, 0, 0), 0, 0, 1, INT), m.other(1, m.plain(0, INT, 10), 0, 0, 0, INT), 0, 0, 0);
        c.types("ten times the second one", m, times, INT, INT, INT);
        c.gives("h is done once, then y", m, m.other(9, count, m.plain(3, 0, 0), count, 0, 0), 2);
        c.due("both counted", m.told(5), 2);
        c.gives("x has 2 last", m, m.other(9, item, times, count, 0, 0), 20);
        int put = m.other(3, c.shape(m, INT, INT, INT, INT), m.other(11, m.plain(10, 0, 0), 0, 0, 2, 0), 0, 0, 0);
        c.fails("x FAILS at its first time", m, m.other(9, item, put, count, 0, 0), 100);
        c.item("with what y gave", m, 1, 0, 4);
        c.item("and 0", m, 1, 1, 0);
        c.due("no second time", m.told(1), 2);
    }

    private static void roundOfTypes() {
        c.says("x takes T and an INT, gives T (not VOID)");
        HandleModels m = new HandleModels();
        int two = m.plain(0, INT, 2);
        int longs = m.other(12, m.plain(7, 0, 0), c.shape(m, LONG, INT, LONG), 0, 0, 0);
        c.gives("LONGS: MIN + 0 + 1", m, m.other(9, two, longs, m.plain(0, LONG, MIN), 0, 0), true, 1, MIN + 1L);
        int box = m.other(1, m.plain(1, BOX, 0), 0, 0, 1, INT);
        int nothing = m.other(12, m.plain(0, VOID, 0), m.plain(0, BOX, 0), 0, 0, 0);
        c.gives("BOXES, of NOTHING", m, m.other(9, two, box, nothing, 0, 0), true, 3, 0);
        int row = m.row(2);
        int put = c.shape(m, ROW, INT, ROW);
        c.fails("ROWS, x FAILS", m, m.other(9, two, put, m.plain(0, ROW, row), 0, 0), 100);
        c.gives("ROWS, none below 1", m, m.other(9, m.plain(0, INT, 0), put, m.plain(0, ROW, row), 0, 0), true, 2, row);
    }

    private static void spread() {
        c.says("10 SPREAD: .. takes a ROW in their place: NULL; ILLEGAL, if it has not just a items.");
        HandleModels m = new HandleModels();
        int count = m.plain(13, 0, 0);
        int h = m.other(1, m.other(1, count, 0, 0, 0, INT), 0, 0, 0, INT);
        int[] made = {m.other(10, h, 0, 0, 2, 0), m.other(10, m.other(1, count, 0, 0, 0, INT), 0, 0, 1, 0)};
        int counted = 0;
        for (int k = 0; k < made.length; k++) {
            int a = 2 - k;
            for (int n : new int[] {0, 1, 2, 3, 6, 20}) {
                c.values(m, 2, m.row(n));
                if (n == a) {
                    counted++;
                    c.gives(n + " items for " + a, m, made[k], counted);
                } else {
                    c.fails(n + " items for " + a, m, made[k], 6);
                    c.due("h is not done", m.told(4), 1);
                }
            }
            c.values(m, 3, 0);
            c.fails("NOTHING for " + a, m, made[k], 3);
            c.due("h is not done", m.told(4), 1);
        }
        c.due("done twice", m.told(5), 2);
    }

    private static void spreadSix() {
        c.says("the last a (1 to 6) of h are INTS");
        HandleModels m = new HandleModels();
        int gather = m.other(11, m.plain(1, ROW, 0), 0, 0, 5, 0);
        int six = m.other(10, m.other(1, gather, 0, 0, 0, INT), 0, 0, 6, 0);
        int row = m.row(6);
        for (int k = 0; k < 6; k++) {
            m.set(row, k, 70 + k);
        }
        c.values(m, 2, row);
        c.gives("six items", m, six, true, 2, row + 1);
        for (int k = 0; k < 5; k++) {
            c.item("in order", m, row + 1, k, 71 + k);
        }
        int two = m.other(10, gather, 0, 0, 2, 0);
        int pair = m.row(2);
        m.set(pair, 0, 8);
        m.set(pair, 1, 9);
        c.values(m, 0, 1, 0, 2, 0, 3, 2, pair);
        c.gives("behind three", m, two, true, 2, pair + 1);
        int[] due = {1, 2, 3, 8, 9};
        for (int k = 0; k < 5; k++) {
            c.item("behind three, in order", m, pair + 1, k, due[k]);
        }
    }

    private static void gathered() {
        c.says("takes a INTS (0 to 5) in its place, of which a new ROW is made (ROOM)");
        HandleModels m = new HandleModels();
        int same = m.plain(1, ROW, 0);
        for (int a = 0; a <= 5; a++) {
            m.clear();
            for (int k = 0; k < a; k++) {
                m.value(k, INT, MIN + k);
            }
            c.gives(a + " INTS", m, m.other(11, same, 0, 0, a, 0), true, 2, a);
            for (int k = 0; k < a; k++) {
                c.item(a + " INTS", m, a, k, MIN + k);
            }
            c.due("just " + a, m.item(a, a), Checks.UNKNOWN);
        }
        m.clear();
        int none = m.other(11, same, 0, 0, 0, 0);
        for (int row = 6; row < 60; row++) {
            c.due("a new one each time", m.run(none, true), 1);
            c.due("its number", m.result(), row);
        }
        c.fails("no room, even for none", m, none, 10);
    }

    private static void gatheredStays() {
        c.says("What a RUN did by the time that it FAILED stays.");
        HandleModels m = new HandleModels();
        int fail = c.shape(m, ROW, INT);
        int gather = m.other(11, fail, 0, 0, 2, 0);
        c.ints(m, 4, 5);
        c.fails("h FAILS", m, gather, 100);
        c.due("the ROW is there", m.told(1), 1);
        c.item("with its items", m, 0, 0, 4);
        c.item("all of them", m, 0, 1, 5);
    }

    private static void adaptedInOrder() {
        c.says("12 ADAPTED ..: each VALUE ADAPTS, ahead of h, in order");
        HandleModels m = new HandleModels();
        int h = m.other(1, m.other(1, m.other(1, m.plain(13, 0, 0), 0, 0, 0, INT), 0, 0, 0, LONG), 0, 0, 0, INT);
        int adapted = m.other(12, h, c.shape(m, BOX, BOX, BOX, INT), 0, 0, 0);
        long[][] failing = {{0, 1, 1, 1, 3, 0, 3}, {0, 1, 1, 1, 1, 1, 2}, {1, 1, 3, 0, 0, 1, 2}, {0, 1, 3, 0, 1, 1, 3},
            {3, 0, 1, 1, 1, 1, 3}, {1, 1, 1, 1, 3, 0, 2}};
        for (long[] f : failing) {
            c.values(m, f[0], f[1], f[2], f[3], f[4], f[5]);
            c.fails("the first one that FAILS", m, adapted, (int) f[6]);
            c.due("ahead of h", m.told(4), 1);
        }
        c.due("h was not done", m.told(5), 0);
        c.values(m, 0, 1, 0, 1, 0, 1);
        c.gives("an INT widens", m, adapted, 1);
        c.values(m, 0, 1, 1, Long.MAX_VALUE, 0, 1);
        c.gives("a LONG as LONG", m, adapted, 2);
        c.due("ADAPTED, three LEFT, COUNTS", m.told(4), 5);
    }

    private static void adaptedGiven() {
        c.says("and what is given");
        HandleModels m = new HandleModels();
        int count = m.plain(13, 0, 0);
        int x = m.plain(0, INT, 0);
        int wide = m.other(12, count, m.plain(0, LONG, 0), 0, 0, 0);
        c.gives("an INT as LONG", m, wide, true, 1, 1);
        int box = m.other(12, wide, m.plain(0, BOX, 0), 0, 0, 0);
        c.gives("a LONG as BOX", m, box, true, 1, 2);
        c.fails("CAST behind h", m, m.other(12, box, x, 0, 0, 0), 2);
        c.due("h was done", m.told(5), 3);
        c.due("ADAPTED three times, and COUNTS", m.told(4), 4);
        int gone = m.other(12, count, m.plain(0, VOID, 0), 0, 0, 0);
        c.gives("an INT as VOID", m, gone, true, 3, 0);
        c.gives("VOID as INT again: 0", m, m.other(12, gone, x, 0, 0, 0), true, 0, 0);
        int nothing = m.other(12, gone, m.plain(0, BOX, 0), 0, 0, 0);
        c.fails("NULL behind h", m, m.other(12, nothing, x, 0, 0, 0), 3);
        c.due("done each time", m.told(5), 6);
    }

    /** A SPREAD part looks at the last one that it takes, so it shows whether it is done with more than that. */
    private static void partsTakeTheirOwn() {
        c.says("(or its first ones of these) .. takes the first ones of what x takes .. (takes one");
        HandleModels m = new HandleModels();
        int row = m.row(1);
        m.set(row, 0, 7);
        int same = m.plain(1, INT, 0);
        int less = m.plain(3, 0, 0);
        int only = m.other(10, same, 0, 0, 1, 0);
        int rowAndInt = m.other(2, m.other(1, same, 0, 0, 0, ROW), 0, 0, 1, 0);
        c.values(m, 2, row, 0, 40);
        c.gives("SIFTED: x takes one of two", m, m.other(4, less, only, 0, 0, 0), 7 - 40);
        int folded = m.other(3, m.other(1, less, 0, 0, 1, ROW), only, 0, 0, 0);
        c.types("FOLDED", m, folded, ROW, INT, INT);
        c.gives("FOLDED: x takes one of two", m, folded, 7 - 40);
        c.gives("CHOSEN: h takes one of two", m, m.other(6, only, rowAndInt, rowAndInt, 0, 0), 40);
        int quiet = m.other(12, only, m.other(1, m.plain(0, VOID, 0), 0, 0, 0, ROW), 0, 0, 0);
        c.gives("FOLDED by VOID: x takes one of two", m, m.other(3, rowAndInt, quiet, 0, 0, 0), 40);
        c.values(m, 2, row);
        c.gives("ADAPTED: h takes one", m, m.other(12, only, only, 0, 0, 0), 7);
        c.gives("THEN: x takes one", m, m.other(5, m.plain(1, ROW, 0), only, 0, 0, 0), 7);
        c.values(m, 0, 30, 2, row);
        c.gives("SIFTED: x takes the last one", m, m.other(4, less, only, 0, 1, 0), 23);
    }

    /** GATHERED of none comes behind what it takes, so it shows whether a part that takes nothing is done with some. */
    private static void partsTakeNothing() {
        c.says("h takes nothing, gives an INT n; .. y takes nothing, gives T");
        HandleModels m = new HandleModels();
        int none = m.other(11, m.plain(10, 0, 0), 0, 0, 0, 0);
        int round = m.other(9, none, m.plain(2, 0, 0), none, 0, 0);
        int left = m.other(1, m.plain(1, ROW, 0), 0, 0, 0, ROW);
        c.values(m, 3, 0, 3, 0);
        c.gives("a RUN of NOTHING", m, m.other(2, left, 0, 0, 10, 0), true, 3, 0);
        m.clear();
        c.gives("ROUND of nothing", m, round, 0);
        int usesNothing = bind(m, m.other(1, m.plain(0, INT, 0), 0, 0, 0, ROW), 3, 0);
        c.gives("ROUND, where h has NOTHING within", m, m.other(9, usesNothing, m.plain(2, 0, 0), none, 0, 0), 0);
        c.values(m, 3, 0);
        c.gives("FOLDED by one that takes nothing", m, m.other(3, m.other(1, m.plain(1, INT, 0), 0, 0, 1, ROW), none, 0, 0, 0), 0);
        int row = m.plain(1, ROW, 0);
        c.gives("CHOSEN by one that takes nothing", m, m.other(6, none, row, row, 0, 0), true, 3, 0);
        int put = m.other(1, m.plain(0, VOID, 0), 0, 0, 0, ROW);
        c.gives("VOID, THEN one that takes nothing", m, m.other(5, put, none, 0, 0, 0), 0);
    }
}
