/** The boundary cases of the document's part 1: TYPES, kinds, ROWS, HANDLES, STEPS, and what they FAIL by. */
public final class EdgesOfTermsTest {
    private static final Checks c = new Checks();
    private static final int INT = 0, LONG = 1, BOX = 2, ROW = 3, VOID = 4;

    public static void main(String[] args) {
        types();
        voidIsGivenAlone();
        kinds();
        rowsAreNumbered();
        rowsByAllWays();
        handlesAreNumbered();
        takesUpToSix();
        stepsOfEachForm();
        givesItsType();
        failsByEachNumber();
        spentAt81();
        spentByDoubling();
        roomAt61();
        c.end();
    }

    private static void types() {
        c.says("0 INT, 1 LONG, 2 BOX (an INT, a LONG or NOTHING, boxed), 3 ROW (of INTS, or NOTHING)");
        HandleModels m = new HandleModels();
        m.row(1);
        c.due("TYPE -1", m.plain(1, -1, 0), Checks.OUTSIDE);
        for (int type = INT; type <= ROW; type++) {
            c.due("TYPE " + type, m.plain(1, type, 0), type);
        }
        long[][] boxed = {{0, Integer.MIN_VALUE}, {1, Long.MAX_VALUE}, {3, 0}};
        for (long[] value : boxed) {
            c.values(m, value);
            c.gives("boxed, kind " + value[0], m, BOX, true, (int) value[0], value[1]);
        }
        c.values(m, 2, 0);
        c.fails("a ROW is not boxed", m, BOX, 7);
        c.gives("a ROW", m, ROW, true, 2, 0);
        c.values(m, 3, 0);
        c.gives("NOTHING as a ROW", m, ROW, true, 3, 0);
    }

    private static void voidIsGivenAlone() {
        c.says("4 VOID (of what is given alone)");
        HandleModels m = new HandleModels();
        c.due("PLAIN 0 gives VOID", m.plain(0, VOID, 0), 0);
        c.due("PLAIN 12 gives VOID", m.plain(12, VOID, 0), 1);
        c.due("PLAIN 1 takes no VOID", m.plain(1, VOID, 0), Checks.OUTSIDE);
        c.due("LEFT takes no VOID", m.other(1, 0, 0, 0, 0, VOID), Checks.OUTSIDE);
        c.types("VOID", m, 0, VOID);
        c.due("there is no TYPE 5", m.plain(0, 5, 0), Checks.OUTSIDE);
        c.due("LEFT of TYPE 5", m.other(1, 0, 0, 0, 0, 5), Checks.OUTSIDE);
    }

    private static void kinds() {
        c.says("A VALUE is of a kind: 0 an INT, 1 a LONG, 2 a ROW (by its number), 3 NOTHING.");
        HandleModels m = new HandleModels();
        m.row(0);
        c.due("kind -1", m.value(0, -1, 0), Checks.OUTSIDE);
        for (int kind = 0; kind <= 3; kind++) {
            c.due("kind " + kind, m.value(kind, kind, 0), kind + 1);
        }
        c.due("kind 4", m.value(0, 4, 0), Checks.OUTSIDE);
        c.due("kind of highest number", m.value(0, Integer.MAX_VALUE, 0), Checks.OUTSIDE);
        c.due("kind of lowest number", m.value(0, Integer.MIN_VALUE, 0), Checks.OUTSIDE);
        c.due("all four are there", m.told(3), 4);
    }

    private static void rowsAreNumbered() {
        c.says("ROWS are numbered from 0 as they are made (also by HANDLES)");
        HandleModels m = new HandleModels();
        int make = m.plain(11, 0, 0);
        int gather = m.other(11, m.plain(1, ROW, 0), 0, 0, 1, 0);
        c.ints(m, 4);
        c.due("the first one", m.row(2), 0);
        c.gives("by PLAIN 11", m, make, true, 2, 1);
        c.due("the next one", m.row(3), 2);
        c.gives("GATHERED", m, gather, true, 2, 3);
        c.due("the next one again", m.row(0), 4);
        int[] lengths = {2, 4, 3, 1, 0};
        for (int row = 0; row < lengths.length; row++) {
            for (int k = 0; k <= lengths[row]; k++) {
                c.due("ROW " + row + ", item " + k, m.item(row, k), k < lengths[row] ? 1 : Checks.UNKNOWN);
            }
        }
        c.due("five ROWS", m.told(1), 5);
    }

    private static void rowsByAllWays() {
        c.says("ROWS .., 60 at most");
        for (int last = 0; last < 3; last++) {
            HandleModels m = new HandleModels();
            int make = m.plain(11, 0, 0);
            int gather = m.other(11, m.plain(1, ROW, 0), 0, 0, 1, 0);
            c.ints(m, 1);
            for (int k = 0; k < 59; k++) {
                c.due("ROW " + k, m.row(1), k);
            }
            if (last == 0) {
                c.due("the 60th by row", m.row(20), 59);
            } else {
                c.gives("the 60th by a HANDLE", m, last == 1 ? make : gather, true, 2, 59);
            }
            c.due("a 61st by row", m.row(0), Checks.FULL);
            c.fails("a 61st by PLAIN 11", m, make, 10);
            c.fails("a 61st GATHERED", m, gather, 10);
            c.due("60 of them", m.told(1), 60);
            c.due("the last one is there", m.set(59, 0, 5), 1);
            c.due("none is behind it", m.set(60, 0, 5), Checks.UNKNOWN);
            c.item("the last one", m, 59, 0, 5);
            c.item("the one ahead of it", m, 58, 0, 0);
        }
    }

    private static void handlesAreNumbered() {
        c.says("HANDLES, numbered from 0, 60 at most");
        HandleModels m = new HandleModels();
        for (int k = 0; k < 59; k++) {
            int made = k % 2 == 0 ? m.plain(0, INT, k) : m.other(2, k - 1, 0, 0, 0, 0);
            c.due("HANDLE " + k, made, k);
        }
        c.due("a refused one has no number", m.other(5, 57, 57, 0, 0, 0), Checks.STATE);
        c.due("the 60th", m.other(2, 57, 0, 0, 0, 0), 59);
        c.due("a 61st, PLAIN", m.plain(0, INT, 0), Checks.FULL);
        c.due("a 61st, another", m.other(2, 59, 0, 0, 0, 0), Checks.FULL);
        c.due("there is no 60", m.about(60, 0), Checks.UNKNOWN);
        c.gives("the last one is done", m, 59, 56);
        c.due("MOVED, MOVED and PLAIN 0", m.told(4), 3);
        c.due("60 of them", m.told(0), 60);
    }

    private static void takesUpToSix() {
        c.says("take 0 to 6 TYPES in order and give one");
        HandleModels m = new HandleModels();
        int six = c.shape(m, ROW, BOX, LONG, INT, ROW, BOX, LONG);
        c.types("six", m, six, ROW, BOX, LONG, INT, ROW, BOX, LONG);
        c.types("none", m, m.plain(12, ROW, 0), ROW);
        for (int place = 0; place <= 6; place++) {
            c.due("a seventh at " + place, m.other(1, six, 0, 0, place, INT), Checks.STATE);
        }
        m.row(0);
        c.values(m, 2, 0, 1, 7, 1, 8, 0, 9, 3, 0, 3, 0);
        c.fails("it is done with six", m, six, 100);
        c.due("six LEFT and PLAIN 12", m.told(4), 7);
    }

    /** The STEPS of each form of OTHERS, of parts that are one STEP each. */
    private static void stepsOfEachForm() {
        c.says("TO DO one with its VALUES is a STEP; so is each one that is done within.");
        HandleModels m = new HandleModels();
        int plus = m.plain(2, 0, 0);
        int same = m.plain(1, INT, 0);
        int nought = m.plain(0, INT, 0);
        int length = m.plain(10, 0, 0);
        int fail = m.plain(12, INT, 0);
        int nothing = m.plain(0, VOID, 0);
        int first = m.other(1, nothing, 0, 0, 0, INT);
        c.ints(m, 3);
        steps("BOUND", m, m.other(0, same, 0, 0, 0, 0), 2);
        steps("LEFT", m, m.other(1, nought, 0, 0, 0, INT), 2, 0, 5);
        steps("MOVED", m, m.other(2, plus, 0, 0, 10, 0), 2, 0, 5, 0, 6);
        steps("FOLDED", m, m.other(3, same, nought, 0, 0, 0), 3);
        steps("FOLDED by VOID", m, m.other(3, nought, nothing, 0, 0, 0), 3);
        steps("SIFTED", m, m.other(4, same, same, 0, 0, 0), 3, 0, 5);
        steps("THEN", m, m.other(5, nought, same, 0, 0, 0), 3);
        steps("CHOSEN", m, m.other(6, nought, nought, nought, 0, 0), 3);
        steps("CAUGHT, not FAILED", m, m.other(7, nought, same, 0, 0, 0), 2);
        steps("CAUGHT, FAILED", m, m.other(7, fail, same, 0, 0, 0), 3);
        steps("ENDED, of a LEFT one", m, m.other(8, nought, first, 0, 0, 0), 4);
        steps("ROUND of none", m, m.other(9, nought, plus, nought, 0, 0), 3);
        m.row(1);
        steps("SPREAD", m, m.other(10, same, 0, 0, 1, 0), 2, 2, 0);
        steps("GATHERED", m, m.other(11, length, 0, 0, 1, 0), 2, 0, 5);
        steps("ADAPTED", m, m.other(12, nought, nothing, 0, 0, 0), 2);
        steps("PLAIN", m, nought, 1);
    }

    private static void steps(String what, HandleModels m, int h, int steps, long... values) {
        c.values(m, values);
        c.due(what + ", its run", m.run(h, true), 1);
        c.due(what + ", STEPS", m.told(4), steps);
    }

    private static void givesItsType() {
        c.says("It gives a VALUE of its TYPE (VOID: NOTHING)");
        HandleModels m = new HandleModels();
        m.row(0);
        int[] kinds = {0, 1, 0, 2, 3};
        for (int type = INT; type <= VOID; type++) {
            c.gives("TYPE " + type, m, m.plain(0, type, 0), true, kinds[type], 0);
        }
        c.gives("VOID has no number", m, m.plain(0, VOID, 77), true, 3, 0);
    }

    private static void failsByEachNumber() {
        c.says("FAILS: 1 ARITHMETIC, 2 CAST, 3 NULL, 4 INDEX, 5 SIZE (a length below 0), 6 ILLEGAL, 7 WRONG (kinds), 8 LINK, .. 100 and b its own");
        HandleModels m = new HandleModels();
        m.row(1);
        int by = m.plain(5, 0, 0);
        int item = m.plain(8, 0, 0);
        int make = m.plain(11, 0, 0);
        int unbox = m.other(12, m.plain(1, INT, 0), m.plain(1, BOX, 0), 0, 0, 0);
        c.ints(m, 1, 0);
        c.fails("ARITHMETIC", m, by, 1);
        c.values(m, 1, 1);
        c.fails("CAST", m, unbox, 2);
        c.values(m, 3, 0);
        c.fails("NULL", m, unbox, 3);
        c.values(m, 2, 0, 0, 1);
        c.fails("INDEX", m, item, 4);
        c.ints(m, -1);
        c.fails("SIZE", m, make, 5);
        c.ints(m, 21);
        c.fails("ILLEGAL", m, make, 6);
        c.fails("WRONG", m, by, 7);
        m.clear();
        c.due("LINK", m.runSite(m.site(make, m.plain(0, INT, -1)), true), -17);
        c.ints(m, 1);
        c.due("LINK with its VALUES", m.runSite(0, true), -18);
        c.due("LINK is told", m.told(6), 8);
        m.clear();
        c.fails("its own, lowest", m, m.plain(12, INT, 0), 100);
        c.fails("its own, highest", m, m.plain(12, INT, 99), 199);
    }

    /** ROUND, n and y are three STEPS, and each round is one. */
    private static void spentAt81() {
        c.says("9 SPENT (the 81st STEP of a run)");
        HandleModels m = new HandleModels();
        int plus = m.plain(2, 0, 0);
        int nought = m.plain(0, INT, 0);
        int same = m.plain(1, INT, 0);
        int least = m.other(9, m.plain(0, INT, 76), plus, nought, 0, 0);
        int just = m.other(9, m.plain(0, INT, 77), plus, nought, 0, 0);
        int over = m.other(9, m.plain(0, INT, 78), plus, nought, 0, 0);
        c.gives("79 STEPS", m, least, 76 * 75 / 2);
        c.due("79", m.told(4), 79);
        c.gives("80 STEPS", m, just, 77 * 76 / 2);
        c.due("80", m.told(4), 80);
        c.fails("81 STEPS", m, over, 9);
        c.fails("80 STEPS within another", m, m.other(2, just, 0, 0, 0, 0), 9);
        c.gives("79 STEPS within another", m, m.other(2, least, 0, 0, 0, 0), 76 * 75 / 2);
        c.fails("79 STEPS, THEN one", m, m.other(5, least, same, 0, 0, 0), 9);
        c.due("the 81st is told", m.told(4), 81);
        c.gives("the next RUN begins at 0", m, just, 77 * 76 / 2);
    }

    /** Each FOLDED one has twice the STEPS of the one ahead of it, and two: 1, 4, 10, 22, 46, 94. */
    private static void spentByDoubling() {
        c.says("9 SPENT (the 81st STEP of a run)");
        HandleModels m = new HandleModels();
        int h = m.plain(13, 0, 0);
        int steps = 1;
        int counted = 0;
        for (int k = 1; k <= 4; k++) {
            h = m.other(3, m.other(1, h, 0, 0, 0, INT), h, 0, 0, 0);
            steps = 2 * steps + 2;
            counted += 1 << k;
            c.gives("doubled " + k + " times", m, h, counted);
            c.due("its STEPS", m.told(4), steps);
        }
        h = m.other(3, m.other(1, h, 0, 0, 0, INT), h, 0, 0, 0);
        c.fails("doubled once more", m, h, 9);
        c.due("81 STEPS", m.told(4), 81);
        c.due("16 COUNTED of the first half, 10 of the second one", m.told(5), counted + 16 + 10);
    }

    private static void roomAt61() {
        c.says("10 ROOM (a 61st ROW)");
        HandleModels m = new HandleModels();
        int length = m.plain(10, 0, 0);
        int gather = m.other(11, length, 0, 0, 2, 0);
        int rows = m.other(9, m.plain(0, INT, 30), gather, m.plain(0, INT, 0), 0, 0);
        c.gives("30 rounds make 30 ROWS", m, rows, 2);
        c.due("30", m.told(1), 30);
        c.gives("and 30 more", m, rows, 2);
        c.due("60", m.told(1), 60);
        c.fails("a 61st", m, rows, 10);
        c.due("ROUND, n, y and the one that FAILED", m.told(4), 4);
        c.due("no 61st is there", m.told(1), 60);
    }
}
