/** The boundary cases of TO ADAPT: each TYPE to each, as VALUES are taken, given, bound, and at hand of a RUN. */
public final class EdgesOfAdaptingTest {
    private static final Checks c = new Checks();
    private static final int INT = 0, LONG = 1, BOX = 2, ROW = 3, VOID = 4;
    private static final int AN_INT = 0, A_LONG = 1, A_ROW = 2, NOTHING = 3;
    private static final int NULL = -3, CAST = -2, NEVER = -99;
    private static final String ADAPT = "TO ADAPT from a TYPE to another one: the same; INT to LONG; INT, LONG to BOX; "
        + "BOX to INT: NULL of NOTHING, CAST of a LONG; BOX to LONG: NULL; an INT widens; any to VOID; "
        + "VOID to INT, LONG: 0, to BOX, ROW: NOTHING. All others: STATE (of a run: WRONG).";

    /** From a TYPE, of a kind, to INT, LONG, BOX, ROW, VOID: the kind that comes; what it FAILS by, below 0; NEVER. */
    private static final int[][] TABLE = {
        {INT, AN_INT, AN_INT, A_LONG, AN_INT, NEVER, NOTHING},
        {LONG, A_LONG, NEVER, A_LONG, A_LONG, NEVER, NOTHING},
        {BOX, AN_INT, AN_INT, A_LONG, AN_INT, NEVER, NOTHING},
        {BOX, A_LONG, CAST, A_LONG, A_LONG, NEVER, NOTHING},
        {BOX, NOTHING, NULL, NULL, NOTHING, NEVER, NOTHING},
        {ROW, A_ROW, NEVER, NEVER, NEVER, A_ROW, NOTHING},
        {ROW, NOTHING, NEVER, NEVER, NEVER, NOTHING, NOTHING},
        {VOID, NOTHING, AN_INT, A_LONG, NOTHING, NOTHING, NOTHING},
    };

    public static void main(String[] args) {
        for (int[] line : TABLE) {
            for (int to = INT; to <= VOID; to++) {
                taken(line[0], line[1], to, line[2 + to]);
                given(line[0], line[1], to, line[2 + to]);
            }
        }
        numbers();
        bound();
        boundWouldFail();
        atHand();
        c.end();
    }

    private static String name(int from, int kind, int to) {
        return "from TYPE " + from + ", kind " + kind + ", to TYPE " + to;
    }

    /** A number that only one ROW, and no item of a fresh object, has. */
    private static long numberOf(int kind) {
        return kind == A_ROW ? 1 : kind == NOTHING ? 0 : 7;
    }

    private static void rows(HandleModels m) {
        m.row(0);
        m.row(1);
    }

    private static void taken(int from, int kind, int to, int due) {
        if (from == VOID || to == VOID) {
            return;
        }
        c.says(ADAPT);
        HandleModels m = new HandleModels();
        rows(m);
        int h = m.plain(1, to, 0);
        int x = c.shape(m, from, to);
        int made = m.other(12, h, x, 0, 0, 0);
        c.due(name(from, kind, to) + ", taken", made, due == NEVER ? Checks.STATE : x + 1);
        if (due != NEVER) {
            c.values(m, kind, numberOf(kind));
            done(name(from, kind, to) + ", taken", m, made, kind, due, 1);
        }
    }

    private static void given(int from, int kind, int to, int due) {
        c.says(ADAPT);
        HandleModels m = new HandleModels();
        rows(m);
        int h = from == VOID ? m.other(1, m.plain(0, VOID, 0), 0, 0, 0, BOX) : m.plain(1, from, 0);
        int x = c.shape(m, from == VOID ? BOX : from, to);
        int made = m.other(12, h, x, 0, 0, 0);
        c.due(name(from, kind, to) + ", given", made, due == NEVER ? Checks.STATE : x + 1);
        if (due != NEVER) {
            c.values(m, kind, numberOf(kind));
            done(name(from, kind, to) + ", given", m, made, kind, due, from == VOID ? 3 : 2);
        }
    }

    private static void done(String what, HandleModels m, int made, int kind, int due, int stepsOfFailed) {
        if (due < 0) {
            c.fails(what, m, made, -due);
            c.due(what + ", STEPS", m.told(4), stepsOfFailed);
        } else {
            c.gives(what, m, made, true, due, due == NOTHING ? 0 : numberOf(kind));
        }
    }

    private static void numbers() {
        c.says("INT to LONG; .. BOX to LONG: NULL; an INT widens");
        HandleModels m = new HandleModels();
        int longs = m.plain(1, LONG, 0);
        int ofInt = m.other(12, longs, c.shape(m, INT, LONG), 0, 0, 0);
        int ofBox = m.other(12, longs, c.shape(m, BOX, LONG), 0, 0, 0);
        for (int number : new int[] {Integer.MIN_VALUE, -1, 0, Integer.MAX_VALUE}) {
            c.ints(m, number);
            c.gives("an INT as LONG", m, ofInt, true, A_LONG, number);
            c.gives("an INT boxed as LONG", m, ofBox, true, A_LONG, number);
            c.gives("an INT at hand as LONG", m, longs, false, A_LONG, number);
        }
        for (long number : new long[] {Long.MIN_VALUE, 0, Long.MAX_VALUE}) {
            c.values(m, A_LONG, number);
            c.gives("a LONG boxed as LONG", m, ofBox, true, A_LONG, number);
        }
        c.says("BOX to INT: NULL of NOTHING, CAST of a LONG");
        int ints = m.other(12, m.plain(1, INT, 0), c.shape(m, BOX, INT), 0, 0, 0);
        c.values(m, A_LONG, 0);
        c.fails("a LONG that an INT could be", m, ints, 2);
        c.values(m, A_LONG, Long.MAX_VALUE);
        c.fails("a LONG that no INT could be", m, ints, 2);
    }

    /** What is STATE when it is bound, and of which kind it is when it is not. */
    private static void bound() {
        c.says("it ADAPTS to the TYPE there, as it is bound: else STATE");
        int[][] due = {
            {AN_INT, A_LONG, AN_INT, Checks.STATE},
            {Checks.STATE, A_LONG, A_LONG, Checks.STATE},
            {Checks.STATE, Checks.STATE, Checks.STATE, A_ROW},
            {Checks.STATE, Checks.STATE, NOTHING, NOTHING},
        };
        for (int kind = AN_INT; kind <= NOTHING; kind++) {
            for (int to = INT; to <= ROW; to++) {
                HandleModels m = new HandleModels();
                rows(m);
                int same = m.plain(1, to, 0);
                c.values(m, kind, numberOf(kind));
                int made = m.other(0, same, 0, 0, 0, 0);
                String what = "kind " + kind + " bound to TYPE " + to;
                m.clear();
                if (due[kind][to] < 0) {
                    c.due(what, made, Checks.STATE);
                    c.due(what + ", none is made", m.told(0), 1);
                } else {
                    c.due(what, made, 1);
                    c.gives(what, m, made, true, due[kind][to], numberOf(kind));
                }
            }
        }
    }

    private static void boundWouldFail() {
        c.says("what would FAIL then: STATE");
        HandleModels m = new HandleModels();
        int plus = m.plain(2, 0, 0);
        int wide = m.plain(7, 0, 0);
        c.values(m, NOTHING, 0, AN_INT, 5);
        for (int a = 0; a <= 1; a++) {
            c.due("NOTHING as INT in place " + a, m.other(0, plus, 0, 0, a, 0), Checks.STATE);
            c.due("NOTHING as LONG in place " + a, m.other(0, wide, 0, 0, a, 0), Checks.STATE);
        }
        c.due("it is no RUN", m.told(6), 0);
        c.due("none is made", m.told(0), 2);
    }

    private static void atHand() {
        c.says("ADAPTING: an INT as INT, a LONG as LONG, a ROW, NOTHING as BOX (as ROW where a ROW is taken) ADAPT to its TYPES");
        int[][] due = {
            {AN_INT, A_LONG, AN_INT, -7},
            {-7, A_LONG, A_LONG, -7},
            {-7, -7, -7, A_ROW},
            {NULL, NULL, NOTHING, NOTHING},
        };
        for (int kind = AN_INT; kind <= NOTHING; kind++) {
            for (int to = INT; to <= ROW; to++) {
                HandleModels m = new HandleModels();
                rows(m);
                int six = m.plain(1, to, 0);
                for (int k = 0; k < 5; k++) {
                    six = m.other(1, six, 0, 0, 0, INT);
                }
                c.values(m, 0, 1, 0, 2, 0, 3, 0, 4, 0, 5, kind, numberOf(kind));
                String what = "the last of six, kind " + kind + ", as TYPE " + to;
                if (due[kind][to] < 0) {
                    c.fails(what, m, six, false, -due[kind][to]);
                    c.due(what + ", nothing is done", m.told(4), 0);
                } else {
                    c.gives(what, m, six, false, due[kind][to], numberOf(kind));
                    c.due(what + ", STEPS", m.told(4), 6);
                }
            }
        }
    }
}
