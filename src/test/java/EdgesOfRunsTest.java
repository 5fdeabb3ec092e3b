/** The boundary cases of a RUN: how many VALUES, of which TYPES, what WRONG does, what stays. */
public final class EdgesOfRunsTest {
    private static final Checks c = new Checks();
    private static final int INT = 0, LONG = 1, BOX = 2, ROW = 3, VOID = 4;

    public static void main(String[] args) {
        asMany();
        exactTypes();
        oneOfSixIsWrong();
        wrongDoesNothing();
        wrongAheadOfNull();
        valuesStay();
        failedStays();
        unknown();
        answers();
        runsOfTheSame();
        c.end();
    }

    /** A HANDLE that takes so many INTS and COUNTS. */
    private static int counting(HandleModels m, int takes) {
        int h = m.plain(13, 0, 0);
        for (int k = 0; k < takes; k++) {
            h = m.other(1, h, 0, 0, 0, INT);
        }
        return h;
    }

    private static void asMany() {
        c.says("they must be as many");
        for (boolean exact : new boolean[] {true, false}) {
            for (int takes = 0; takes <= 6; takes++) {
                HandleModels m = new HandleModels();
                int h = counting(m, takes);
                int counted = 0;
                for (int there = 0; there <= 6; there++) {
                    String what = there + " VALUES for " + takes + (exact ? ", exactly" : ", adapting");
                    if (there == takes) {
                        counted++;
                        c.gives(what, m, h, exact, INT, counted);
                        c.due(what + ", STEPS", m.told(4), takes + 1);
                    } else {
                        c.fails(what, m, h, exact, 7);
                        c.due(what + ", STEPS", m.told(4), 0);
                    }
                    if (there < 6) {
                        m.value(there, INT, 1);
                    }
                }
                c.due("done once", m.told(5), 1);
            }
        }
    }

    private static void exactTypes() {
        c.says("of its TYPES just (an INT of INT; a LONG of LONG; of BOX an INT, a LONG or NOTHING; of ROW a ROW or NOTHING), else WRONG");
        boolean[][] fits = {
            // of INT, LONG, BOX, ROW
            {true, false, true, false},
            {false, true, true, false},
            {false, false, false, true},
            {false, false, true, true},
        };
        for (int kind = 0; kind <= 3; kind++) {
            for (int type = INT; type <= ROW; type++) {
                HandleModels m = new HandleModels();
                m.row(0);
                int h = m.plain(1, type, 0);
                c.values(m, kind, 0);
                if (fits[kind][type]) {
                    c.gives("kind " + kind + " of TYPE " + type, m, h, true, kind, 0);
                } else {
                    c.fails("kind " + kind + " of TYPE " + type, m, h, true, 7);
                }
            }
        }
    }

    private static void oneOfSixIsWrong() {
        c.says("EXACT: they must be as many, and of its TYPES just .., else WRONG");
        HandleModels m = new HandleModels();
        int h = counting(m, 6);
        for (int place = 0; place < 6; place++) {
            long[] values = new long[12];
            values[2 * place] = 1;
            c.values(m, values);
            c.fails("a LONG in place " + place, m, h, true, 7);
            c.fails("a LONG in place " + place + ", adapting", m, h, false, 7);
            values[2 * place] = 3;
            c.values(m, values);
            c.fails("NOTHING in place " + place, m, h, true, 7);
            c.fails("NOTHING in place " + place + ", adapting", m, h, false, 3);
        }
        c.due("never done", m.told(5), 0);
    }

    private static void wrongDoesNothing() {
        c.says("Nothing is done with WRONG.");
        HandleModels m = new HandleModels();
        int make = m.plain(11, 0, 0);
        int count = m.plain(13, 0, 0);
        c.gives("a RUN", m, count, 1);
        for (boolean exact : new boolean[] {true, false}) {
            c.values(m, 1, 3);
            c.fails("a LONG for a length", m, make, exact, 7);
            c.fails("one VALUE for none", m, count, exact, 7);
            c.due("no STEP", m.told(4), 0);
            c.due("no ROW", m.told(1), 0);
            c.due("nothing COUNTED", m.told(5), 1);
        }
    }

    private static void wrongAheadOfNull() {
        c.says("Nothing is done with WRONG.");
        HandleModels m = new HandleModels();
        int plus = m.plain(2, 0, 0);
        c.values(m, 3, 0, 1, 1);
        c.fails("NULL, and WRONG behind it", m, plus, false, 7);
        c.values(m, 1, 1, 3, 0);
        c.fails("NULL behind WRONG", m, plus, false, 7);
        c.values(m, 3, 0, 3, 0);
        c.fails("NULL twice", m, plus, false, 3);
        c.values(m, 3, 0);
        c.fails("NULL, and too few", m, plus, false, 7);
        c.values(m, 3, 0, 0, 1, 0, 1);
        c.fails("NULL, and too many", m, plus, false, 7);
    }

    private static void valuesStay() {
        c.says("A RUN is of a HANDLE with the VALUES at hand");
        HandleModels m = new HandleModels();
        int wide = m.plain(7, 0, 0);
        int less = m.plain(3, 0, 0);
        int moved = m.other(2, less, 0, 0, 10, 0);
        c.ints(m, 9, 4);
        c.gives("adapted to LONGS", m, wide, false, 1, 13);
        c.fails("but at hand they are INTS", m, wide, true, 7);
        c.gives("9 less 4", m, less, 5);
        c.gives("moved", m, moved, -5);
        c.gives("at hand as they were", m, less, 5);
        c.due("two of them", m.told(3), 2);
        c.due("cleared", m.clear(), 2);
    }

    private static void failedStays() {
        c.says("What a RUN did by the time that it FAILED stays.");
        HandleModels m = new HandleModels();
        m.row(3);
        int put = m.plain(9, 0, 0);
        int fail = m.plain(12, VOID, 0);
        int make = m.plain(11, 0, 0);
        c.values(m, 2, 0, 0, 2, 0, 8);
        c.fails("put, THEN FAIL", m, m.other(5, put, fail, 0, 0, 0), 100);
        c.item("it is put", m, 0, 2, 8);
        c.ints(m, 4);
        c.fails("made, THEN FAIL", m, m.other(5, make, c.shape(m, ROW, INT), 0, 0, 0), 100);
        c.due("the ROW is there", m.told(1), 2);
        m.clear();
        c.fails("SPENT", m, m.other(9, m.plain(0, INT, 99), counting(m, 2), m.plain(0, INT, 0), 0, 0), 9);
        c.due("what COUNTED of 80 STEPS", m.told(5), 25);
    }

    private static void unknown() {
        c.says("A RUN: 1, and the RESULT; -10 less what it FAILED by. UNKNOWN.");
        HandleModels m = new HandleModels();
        c.due("none is there", m.run(0, true), Checks.UNKNOWN);
        m.plain(0, LONG, -6);
        m.run(0, true);
        for (int h : new int[] {-1, 1, 59, 60, Integer.MAX_VALUE, Integer.MIN_VALUE}) {
            c.due("HANDLE " + h, m.run(h, true), Checks.UNKNOWN);
            c.due("HANDLE " + h + ", adapting", m.run(h, false), Checks.UNKNOWN);
        }
        c.due("the RESULT's kind stays", m.resultKind(), 1);
        c.due("the RESULT stays", m.result(), -6);
        c.due("STEPS stay", m.told(4), 1);
    }

    private static void answers() {
        c.says("-10 less what it FAILED by");
        HandleModels m = new HandleModels();
        c.due("by 100", m.run(m.plain(12, INT, 0), true), -110);
        c.due("by 199", m.run(m.plain(12, INT, 99), true), -209);
        c.due("by WRONG", m.run(m.plain(2, 0, 0), true), -17);
        c.due("none", m.run(m.plain(0, INT, -110), true), 1);
        c.due("the RESULT is no answer", m.result(), -110);
        c.due("told 6 is 0 again", m.told(6), 0);
    }

    private static void runsOfTheSame() {
        c.says("STEPS of the latest RUN");
        HandleModels m = new HandleModels();
        int forty = m.other(9, m.plain(0, INT, 40), m.plain(2, 0, 0), m.plain(0, INT, 0), 0, 0);
        for (int k = 0; k < 5; k++) {
            c.gives("again", m, forty, 780);
            c.due("43 each time", m.told(4), 43);
        }
    }
}
