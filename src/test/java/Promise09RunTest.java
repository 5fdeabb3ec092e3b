/** Promise 9: run, exactly and adapting; STEPS and SPENT. */
public final class Promise09RunTest {
    private static final Checks c = new Checks();
    private static final int INT = 0, LONG = 1, BOX = 2, ROW = 3;

    public static void main(String[] args) {
        unknown();
        kinds();
        howMany();
        wrongAheadOfAll();
        spent();
        deep();
        stays();
        c.end();
    }

    private static void unknown() {
        HandleModels m = new HandleModels();
        m.plain(0, INT, 4);
        m.run(0, true);
        c.due("-1", m.run(-1, true), Checks.UNKNOWN);
        c.due("1", m.run(1, false), Checks.UNKNOWN);
        c.due("60", m.run(60, false), Checks.UNKNOWN);
        c.due("the RESULT stays", m.result(), 4);
        c.due("STEPS stay", m.told(4), 1);
    }

    /** Each kind to each TYPE: the kind of what comes; else what it FAILS by, below 0. */
    private static void kinds() {
        int[][] exact = {{0, -7, 0, -7}, {-7, 1, 1, -7}, {-7, -7, -7, 2}, {-7, -7, 3, 3}};
        int[][] adapting = {{0, 1, 0, -7}, {-7, 1, 1, -7}, {-7, -7, -7, 2}, {-3, -3, 3, 3}};
        HandleModels m = new HandleModels();
        m.row(0);
        m.row(1);
        for (int type = INT; type <= ROW; type++) {
            m.plain(1, type, 0);
        }
        for (int kind = 0; kind <= 3; kind++) {
            int number = kind == 3 ? 0 : 1;
            c.values(m, kind, number);
            for (int type = INT; type <= ROW; type++) {
                one("exact, kind " + kind + " to " + type, m, type, true, exact[kind][type], number);
                one("adapting, kind " + kind + " to " + type, m, type, false, adapting[kind][type], number);
            }
        }
    }

    private static void one(String what, HandleModels m, int h, boolean exact, int due, int number) {
        if (due < 0) {
            c.fails(what, m, h, exact, -due);
            c.due(what + ", no STEP", m.told(4), 0);
        } else {
            c.gives(what, m, h, exact, due, number);
            c.due(what + ", a STEP", m.told(4), 1);
        }
    }

    private static void howMany() {
        HandleModels m = new HandleModels();
        int plus = m.plain(2, 0, 0);
        int fixed = m.plain(0, INT, 3);
        for (boolean exact : new boolean[] {true, false}) {
            c.ints(m, 1);
            c.fails("one of two", m, plus, exact, 7);
            c.ints(m, 1, 2, 3);
            c.fails("three of two", m, plus, exact, 7);
            c.fails("three of none", m, fixed, exact, 7);
            c.ints(m, 1, 2);
            c.gives("two", m, plus, exact, 0, 3);
            m.clear();
            c.gives("none", m, fixed, exact, 0, 3);
        }
    }

    private static void wrongAheadOfAll() {
        HandleModels m = new HandleModels();
        int plus = m.plain(2, 0, 0);
        c.values(m, 3, 0, 1, 5);
        c.fails("NULL, but WRONG behind it", m, plus, false, 7);
        c.values(m, 3, 0, 0, 5);
        c.fails("NULL", m, plus, false, 3);
        c.due("ahead of the first STEP", m.told(4), 0);
        c.values(m, 0, 5, 3, 0);
        c.fails("NULL of the second", m, plus, false, 3);
    }

    private static void spent() {
        HandleModels m = new HandleModels();
        int plus = m.plain(2, 0, 0);
        int one = m.plain(0, INT, 0);
        int exactly = m.other(9, m.plain(0, INT, 77), plus, one, 0, 0);
        int tooMany = m.other(9, m.plain(0, INT, 78), plus, one, 0, 0);
        int most = m.other(9, m.plain(0, INT, Integer.MAX_VALUE), plus, one, 0, 0);
        c.gives("80 STEPS", m, exactly, 77 * 76 / 2);
        c.due("80", m.told(4), 80);
        c.fails("81 STEPS", m, tooMany, 9);
        c.due("the 81st is the one that FAILED", m.told(4), 81);
        c.fails("most STEPS", m, most, 9);
        c.due("81", m.told(4), 81);
        c.gives("each RUN has its own", m, exactly, 77 * 76 / 2);
        int count = m.plain(13, 0, 0);
        int counting = m.other(1, m.other(1, count, 0, 0, 0, INT), 0, 0, 0, INT);
        c.fails("COUNTS", m, m.other(9, m.plain(0, INT, 100), counting, one, 0, 0), 9);
        c.due("ROUND, n, y, 25 times three, and two more", m.told(5), 25);
    }

    private static void deep() {
        HandleModels m = new HandleModels();
        int h = m.plain(13, 0, 0);
        for (int k = 1; k < 60; k++) {
            h = m.other(2, h, 0, 0, 0, 0);
        }
        c.due("60 HANDLES", h, 59);
        c.gives("each within the next", m, h, 1);
        c.due("60 STEPS", m.told(4), 60);
    }

    private static void stays() {
        HandleModels m = new HandleModels();
        int put = m.plain(9, 0, 0);
        int fail = m.plain(12, INT, 0);
        int both = m.other(5, put, fail, 0, 0, 0);
        m.row(1);
        c.values(m, 2, 0, 0, 0, 0, 8);
        c.fails("put, then FAIL", m, both, 100);
        c.due("item", m.item(0, 0), 1);
        c.due("what was done stays", m.result(), 8);
        c.due("VALUES stay", m.told(3), 3);
    }
}
