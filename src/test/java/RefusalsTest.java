import java.util.Random;

/** Of several refusals the first one: UNKNOWN, OUTSIDE, STATE, FULL; and they change nothing. */
public final class RefusalsTest {
    private static final Checks c = new Checks();
    private static final int INT = 0, ROW = 3, VOID = 4;
    private static final int PLUS = 0, FIXED = 1, QUIET = 3, SIX = 8, LENGTH = 9, SAME = 10, NO = 77;

    public static void main(String[] args) {
        for (boolean full : new boolean[] {false, true}) {
            plain(full);
            unknownFirst(full);
            outsideAheadOfState(full);
            stateAheadOfFull(full);
            rows(full);
            values(full);
            sites(full);
        }
        for (int seed = 0; seed < 400; seed++) {
            twins(seed);
        }
        c.end();
    }

    /** An object with a few HANDLES that all tests here know by number; the others fill it up, if it is to be full. */
    private static HandleModels some(boolean full) {
        c.says("Of several refusals the first one here: UNKNOWN (there is no such HANDLE, ROW, SITE), OUTSIDE (a number is not as told), STATE, FULL.");
        HandleModels m = new HandleModels();
        m.row(1);
        c.due("plus", m.plain(2, 0, 0), PLUS);
        c.due("a fixed one", m.plain(0, INT, 0), FIXED);
        c.due("six", c.shape(m, INT, INT, INT, INT, INT, INT, VOID), SIX);
        c.types("one of those that six is made of", m, QUIET, INT, VOID);
        c.due("how long", m.plain(10, 0, 0), LENGTH);
        c.due("the same", m.plain(1, INT, 0), SAME);
        while (full && m.told(0) < 60) {
            m.plain(0, INT, 0);
        }
        while (full && m.told(1) < 60) {
            m.row(0);
        }
        while (full && m.told(2) < 10) {
            m.site(1, 1);
        }
        return m;
    }

    private static void plain(boolean full) {
        HandleModels m = some(full);
        c.due("UNKNOWN", m.plain(0, ROW, NO), Checks.UNKNOWN);
        c.due("OUTSIDE, the form", m.plain(14, ROW, NO), Checks.OUTSIDE);
        c.due("OUTSIDE, TYPE a", m.plain(0, 5, NO), Checks.OUTSIDE);
        c.due("OUTSIDE, TYPE a of 1", m.plain(1, VOID, 0), Checks.OUTSIDE);
        c.due("OUTSIDE, b of 12", m.plain(12, ROW, 100), Checks.OUTSIDE);
        c.due("FULL, or not", m.plain(12, ROW, 99), full ? Checks.FULL : SAME + 1);
    }

    private static void unknownFirst(boolean full) {
        HandleModels m = some(full);
        for (int form : new int[] {-1, 13, 0, 1, 2, 10, 11}) {
            c.due("h, a and b outside, form " + form, m.other(form, NO, NO, NO, -1, -1), Checks.UNKNOWN);
        }
        for (int form = 3; form <= 12; form++) {
            if (form != 10 && form != 11) {
                c.due("x, and a outside, form " + form, m.other(form, PLUS, NO, PLUS, 99, -1), Checks.UNKNOWN);
                c.due("x, and TYPES, form " + form, m.other(form, SIX, NO, PLUS, 0, 0), Checks.UNKNOWN);
            }
        }
        for (int form : new int[] {6, 9}) {
            c.due("y, and TYPES, form " + form, m.other(form, SIX, PLUS, NO, 0, 0), Checks.UNKNOWN);
        }
        c.due("about", m.about(NO, -1), Checks.UNKNOWN);
    }

    private static void outsideAheadOfState(boolean full) {
        HandleModels m = some(full);
        m.clear();
        int[][] calls = {
            {-1, PLUS, NO, NO, 0, 0}, {13, PLUS, NO, NO, 0, 0},
            {0, PLUS, NO, NO, 2, 0}, {0, FIXED, NO, NO, 0, 0},
            {1, SIX, NO, NO, 7, 0}, {1, SIX, NO, NO, 0, VOID}, {1, SIX, NO, NO, 0, -1},
            {2, PLUS, NO, NO, 11, 0},
            {4, PLUS, PLUS, NO, 2, 0}, {4, FIXED, PLUS, NO, 0, 0},
            {7, PLUS, PLUS, NO, 7, 0}, {7, PLUS, PLUS, NO, 99, 0}, {7, PLUS, PLUS, NO, 200, 0},
            {10, LENGTH, NO, NO, 0, 0}, {10, LENGTH, NO, NO, 7, 0},
            {11, PLUS, NO, NO, -1, 0}, {11, PLUS, NO, NO, 6, 0},
        };
        for (int[] p : calls) {
            c.due("form " + p[0] + ", a " + p[4] + ", b " + p[5], m.other(p[0], p[1], p[2], p[3], p[4], p[5]), Checks.OUTSIDE);
        }
    }

    private static void stateAheadOfFull(boolean full) {
        HandleModels m = some(full);
        m.clear();
        int[][] calls = {
            {0, PLUS, NO, NO, 1, 0}, {1, SIX, NO, NO, 6, ROW}, {3, PLUS, PLUS, NO, 0, 0}, {4, PLUS, PLUS, NO, 1, 0},
            {5, PLUS, PLUS, NO, 0, 0}, {6, PLUS, FIXED, FIXED, 0, 0}, {6, FIXED, PLUS, FIXED, 0, 0},
            {7, PLUS, PLUS, NO, 199, 0}, {8, PLUS, PLUS, NO, 0, 0}, {9, PLUS, PLUS, PLUS, 0, 0},
            {10, LENGTH, NO, NO, 1, 0}, {11, PLUS, NO, NO, 5, 0}, {12, PLUS, LENGTH, NO, 0, 0},
        };
        for (int[] p : calls) {
            c.due("form " + p[0], m.other(p[0], p[1], p[2], p[3], p[4], p[5]), Checks.STATE);
        }
        c.values(m, 3, 0);
        c.due("what would FAIL as it is bound", m.other(0, PLUS, NO, NO, 0, 0), Checks.STATE);
        c.ints(m, 1);
        int[][] fine = {
            {0, PLUS, NO, NO, 1, 0}, {1, PLUS, NO, NO, 2, ROW}, {2, PLUS, NO, NO, 10, 0}, {3, PLUS, FIXED, NO, 0, 0},
            {4, PLUS, SAME, NO, 1, 0}, {5, FIXED, SAME, NO, 0, 0}, {6, FIXED, PLUS, PLUS, 0, 0},
            {7, FIXED, SAME, NO, 199, 0}, {8, FIXED, QUIET, NO, 0, 0}, {9, FIXED, PLUS, FIXED, 0, 0},
            {10, PLUS, NO, NO, 2, 0}, {11, LENGTH, NO, NO, 5, 0}, {12, PLUS, PLUS, NO, 0, 0},
        };
        for (int[] p : fine) {
            int made = m.other(p[0], p[1], p[2], p[3], p[4], p[5]);
            c.due("form " + p[0] + ", FULL or not", made, full ? Checks.FULL : SAME + 1 + p[0]);
        }
    }

    private static void rows(boolean full) {
        HandleModels m = some(full);
        c.due("OUTSIDE, below", m.row(-1), Checks.OUTSIDE);
        c.due("OUTSIDE, above", m.row(21), Checks.OUTSIDE);
        c.due("FULL, or not", m.row(20), full ? Checks.FULL : 1);
    }

    private static void values(boolean full) {
        HandleModels m = some(full);
        c.due("UNKNOWN, and k outside", m.value(-1, 2, NO), Checks.UNKNOWN);
        c.due("UNKNOWN, and k above", m.value(6, 2, NO), Checks.UNKNOWN);
        c.due("OUTSIDE, k", m.value(6, 2, 0), Checks.OUTSIDE);
        c.due("OUTSIDE, the kind of no ROW", m.value(0, 4, NO), Checks.OUTSIDE);
    }

    private static void sites(boolean full) {
        HandleModels m = some(full);
        c.due("UNKNOWN h, and the STARTER takes something", m.site(NO, PLUS), Checks.UNKNOWN);
        c.due("UNKNOWN STARTER", m.site(PLUS, NO), Checks.UNKNOWN);
        c.due("STATE", m.site(PLUS, PLUS), Checks.STATE);
        c.due("FULL, or not", m.site(PLUS, FIXED), full ? Checks.FULL : 0);
        c.due("turn: UNKNOWN HANDLE, not LINKED", m.turn(0, NO), Checks.UNKNOWN);
        c.due("turn: UNKNOWN SITE, other TYPES", m.turn(10, PLUS), Checks.UNKNOWN);
        c.due("turn: not LINKED", m.turn(0, FIXED), Checks.STATE);
    }

    /** One object has all calls, its twin has those alone that the first one did not refuse: then both are alike. */
    private static void twins(int seed) {
        c.says("They change nothing.");
        Random random = new Random(seed);
        HandleModels all = new HandleModels();
        HandleModels twin = new HandleModels();
        int refused = 0;
        for (int k = 0; k < 200; k++) {
            int[] p = new int[7];
            for (int at = 0; at < p.length; at++) {
                p[at] = random.nextInt(20) == 0 ? random.nextInt() : random.nextInt(14) - 1;
            }
            boolean run = p[0] % 3 == 0;
            long answer = call(all, p, run);
            if (answer <= Checks.UNKNOWN && answer >= Checks.FULL) {
                refused++;
            } else {
                c.due("seed " + seed + ", call " + k, call(twin, p, run), answer);
            }
            if (k % 20 == 19) {
                alike("seed " + seed + " behind call " + k, all, twin);
            }
        }
        c.due("seed " + seed + ", some were refused", refused > 20 ? 1 : 0, 1);
    }

    private static long call(HandleModels m, int[] p, boolean exact) {
        switch (Math.floorMod(p[0], 12)) {
            case 0: return m.plain(p[1], p[2], p[3]);
            case 1: return m.plain(1 + Math.floorMod(p[1], 2) * 10, p[2], p[3]);
            case 2: return m.other(p[1], p[2], p[3], p[4], p[5], p[6]);
            case 3: return m.other(Math.floorMod(p[1], 3), p[2], p[3], p[4], p[5], p[6]);
            case 4: return m.row(p[1]);
            case 5: return m.set(p[1], p[2], p[3]);
            case 6: return m.item(p[1], p[2]);
            case 7: return m.value(p[1], p[2], p[3]);
            case 8: return m.run(p[1], exact);
            case 9: return m.site(p[1], p[2]);
            case 10: return m.runSite(p[1], exact);
            default: return m.turn(p[1], p[2]);
        }
    }

    private static void alike(String what, HandleModels a, HandleModels b) {
        for (int k = 0; k <= 6; k++) {
            c.due(what + ", told " + k, a.told(k), b.told(k));
        }
        c.due(what + ", kind", a.resultKind(), b.resultKind());
        c.due(what + ", result", a.result(), b.result());
        for (int s = 0; s < a.told(2); s++) {
            c.due(what + ", linked " + s, a.linked(s), b.linked(s));
        }
    }
}
