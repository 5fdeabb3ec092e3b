/** The boundary cases of making OTHERS 0 to 12: places, digits, numbers, TYPES, more than 6. */
public final class EdgesOfOthersMadeTest {
    private static final Checks c = new Checks();
    private static final int INT = 0, LONG = 1, BOX = 2, ROW = 3, VOID = 4;
    private static final int MAX = Integer.MAX_VALUE, MIN = Integer.MIN_VALUE;
    private static final int[] FAR = {-1, MAX, MIN};

    public static void main(String[] args) {
        forms();
        lookedAt();
        boundPlaces();
        leftPlaces();
        movedDigits();
        movedOrdersOfThree();
        movedTypes();
        folded();
        foldedByVoid();
        siftedPlaces();
        then();
        chosen();
        caughtNumbers();
        caughtAndEndedTypes();
        round();
        spread();
        gathered();
        adaptedAsMany();
        c.end();
    }

    private static void outside(String what, HandleModels m, int form, int h, int x, int a, int b) {
        c.due(what, m.other(form, h, x, h, a, b), Checks.OUTSIDE);
    }

    private static void state(String what, HandleModels m, int form, int h, int x, int a) {
        c.due(what, m.other(form, h, x, h, a, 0), Checks.STATE);
    }

    private static void forms() {
        c.says("Another one (0 to 12");
        HandleModels m = new HandleModels();
        m.plain(2, 0, 0);
        for (int form : new int[] {-1, 13, 14, MAX, MIN}) {
            outside("form " + form, m, form, 0, 0, 0, 0);
        }
        c.due("none is made", m.told(0), 1);
    }

    private static void lookedAt() {
        c.says("x of 3 to 9, 12, y of 6, 9 are looked at");
        for (int form = 0; form <= 12; form++) {
            boolean ofX = form >= 3 && form <= 9 || form == 12;
            boolean ofY = form == 6 || form == 9;
            for (int none : new int[] {-1, 1, 59, 60, MAX, MIN}) {
                HandleModels m = new HandleModels();
                m.plain(2, 0, 0);
                c.due("h " + none + ", form " + form, m.other(form, none, 0, 0, 0, 0), Checks.UNKNOWN);
                boolean unknownX = m.other(form, 0, none, 0, 1, 0) == Checks.UNKNOWN;
                c.due("x " + none + ", form " + form, unknownX ? 1 : 0, ofX ? 1 : 0);
                boolean unknownY = m.other(form, 0, 0, none, 1, 0) == Checks.UNKNOWN;
                c.due("y " + none + ", form " + form, unknownY ? 1 : 0, ofY ? 1 : 0);
            }
        }
    }

    private static void boundPlaces() {
        c.says("0 BOUND: h with VALUE 0 in place a");
        HandleModels m = new HandleModels();
        int nothing = m.plain(0, INT, 0);
        int plus = m.plain(2, 0, 0);
        int six = c.shape(m, INT, LONG, INT, BOX, INT, INT, VOID);
        c.ints(m, 5, 6);
        for (int a : FAR) {
            outside("place " + a, m, 0, plus, 0, a, 0);
        }
        outside("place 2 of two", m, 0, plus, 0, 2, 0);
        outside("place 6 of six", m, 0, six, 0, 6, 0);
        outside("place 0 of none", m, 0, nothing, 0, 0, 0);
        c.types("the first place", m, m.other(0, six, 0, 0, 0, 0), LONG, INT, BOX, INT, INT, VOID);
        c.types("the last place", m, m.other(0, six, 0, 0, 5, 0), INT, LONG, INT, BOX, INT, VOID);
        c.types("to none", m, m.other(0, m.other(0, plus, 0, 0, 1, 0), 0, 0, 0, 0), INT);
        c.due("VALUES stay", m.told(3), 2);
        m.clear();
        c.says("STATE: .. no VALUE");
        state("no VALUE", m, 0, plus, 0, 0);
        outside("no VALUE, and no place", m, 0, plus, 0, 2, 0);
    }

    private static void leftPlaces() {
        c.says("1 LEFT: a VALUE of TYPE b (0 to 3) comes at place a (0 to how many it takes)");
        HandleModels m = new HandleModels();
        int nothing = m.plain(0, INT, 0);
        int plus = m.plain(2, 0, 0);
        for (int far : FAR) {
            outside("place " + far, m, 1, plus, 0, far, 0);
            outside("TYPE " + far, m, 1, plus, 0, 0, far);
        }
        outside("place 3 of two", m, 1, plus, 0, 3, 0);
        outside("place 1 of none", m, 1, nothing, 0, 1, 0);
        outside("VOID", m, 1, plus, 0, 0, VOID);
        for (int b = INT; b <= ROW; b++) {
            c.types("of none, TYPE " + b, m, m.other(1, nothing, 0, 0, 0, b), b, INT);
            c.types("behind the last one, TYPE " + b, m, m.other(1, plus, 0, 0, 2, b), INT, INT, b, INT);
        }
        c.says("STATE: TYPES, more than 6");
        int five = c.shape(m, INT, INT, INT, INT, INT, VOID);
        int six = m.other(1, five, 0, 0, 5, ROW);
        c.types("a sixth", m, six, INT, INT, INT, INT, INT, ROW, VOID);
        state("a seventh, first", m, 1, six, 0, 0);
        state("a seventh, last", m, 1, six, 0, 6);
        outside("a seventh at no place", m, 1, six, 0, 7, 0);
    }

    private static void movedDigits() {
        c.says("2 MOVED: .. (decimals, the first one highest, 0 to 5; as many as h takes, each place once; 0 where it takes none)");
        HandleModels m = new HandleModels();
        int h = m.plain(12, VOID, 0);
        int[][] wrong = {
            {1, 10, 9, -10}, {1, 10, 5, -10, 100}, {0, 11, 2, 20, 12, 21, -1, -10, 101, 110, 100},
            {0, 1, 10, 11, 13, 112, 120 + 1000, 100, 212, 222, 321, 1012, -12, -210},
            {0, 12, 210, 1230 + 1, 3333, 124, 4321, 10123, -123},
            {0, 123, 3210, 1235, 54321, 44444, 101234, -1234},
            {0, 1234, 43210, 12346, 654321, 555555, 543211, 1012345, 1543210, 999999, 10543210, -12345, -543210},
        };
        int[] right = {0, 0, 10, 210, 3210, 43210, 543210};
        int[] asTheyAre = {0, 0, 1, 12, 123, 1234, 12345};
        for (int takes = 0; takes <= 6; takes++) {
            for (int a : wrong[takes]) {
                outside(takes + " places, digits " + a, m, 2, h, 0, a, 0);
            }
            outside(takes + " places, digits of the highest", m, 2, h, 0, MAX, 0);
            outside(takes + " places, digits of the lowest", m, 2, h, 0, MIN, 0);
            outside(takes + " places, of -1", m, 2, h, 0, -1, 0);
            c.due(takes + " places back", m.about(m.other(2, h, 0, 0, right[takes], 0), 0), takes);
            c.due(takes + " places as they are", m.about(m.other(2, h, 0, 0, asTheyAre[takes], 0), 0), takes);
            h = takes < 6 ? m.other(1, h, 0, 0, takes, INT) : h;
        }
    }

    /** Of all numbers up to 400, just the six orders of three places are taken. */
    private static void movedOrdersOfThree() {
        c.says("as many as h takes, each place once");
        HandleModels m = new HandleModels();
        int three = c.shape(m, INT, INT, INT, VOID);
        int taken = 0;
        for (int a = 0; a <= 400; a++) {
            boolean order = a == 12 || a == 21 || a == 102 || a == 120 || a == 201 || a == 210;
            int got = m.other(2, three, 0, 0, a, 0);
            c.due("digits " + a, got < 0 ? got : 0, order ? 0 : Checks.OUTSIDE);
            taken += got >= 0 ? 1 : 0;
        }
        c.due("six orders", taken, 6);
    }

    private static void movedTypes() {
        c.says("VALUE k of h is that at the k-th digit of a .. : its TYPES so");
        HandleModels m = new HandleModels();
        int h = c.shape(m, INT, LONG, BOX, ROW, INT, LONG, VOID);
        c.types("as they are", m, m.other(2, h, 0, 0, 12345, 0), INT, LONG, BOX, ROW, INT, LONG, VOID);
        c.types("back", m, m.other(2, h, 0, 0, 543210, 0), LONG, INT, ROW, BOX, LONG, INT, VOID);
        c.types("the first one comes last", m, m.other(2, h, 0, 0, 501234, 0), LONG, BOX, ROW, INT, LONG, INT, VOID);
        c.types("the last one comes first", m, m.other(2, h, 0, 0, 123450, 0), LONG, INT, LONG, BOX, ROW, INT, VOID);
        c.types("two change places", m, m.other(2, h, 0, 0, 12435, 0), INT, LONG, BOX, INT, ROW, LONG, VOID);
    }

    private static void folded() {
        c.says("3 FOLDED by x: x takes the same as h behind its first one (or its first ones of these), gives the first one's TYPE");
        HandleModels m = new HandleModels();
        int h = c.shape(m, BOX, INT, LONG, ROW);
        int none = c.shape(m, BOX);
        int one = c.shape(m, INT, BOX);
        int two = c.shape(m, INT, LONG, BOX);
        int[] fitting = {none, one, two};
        for (int x : fitting) {
            c.types("x takes its first ones", m, m.other(3, h, x, 0, 0, 0), INT, LONG, ROW);
        }
        state("x takes one more", m, 3, h, c.shape(m, INT, LONG, INT, BOX), 0);
        state("x takes the second one alone", m, 3, h, c.shape(m, LONG, BOX), 0);
        state("x takes h's first one", m, 3, h, c.shape(m, BOX, BOX), 0);
        state("x gives another TYPE", m, 3, h, c.shape(m, INT, INT), 0);
        state("h takes nothing", m, 3, none, none, 0);
        c.types("h takes one", m, m.other(3, m.plain(1, BOX, 0), none, 0, 0, 0), BOX);
    }

    private static void foldedByVoid() {
        c.says("(VOID: h takes all, x its first ones, and is done ahead)");
        HandleModels m = new HandleModels();
        int h = c.shape(m, BOX, INT, ROW);
        int none = c.shape(m, VOID);
        c.types("x takes none", m, m.other(3, h, none, 0, 0, 0), BOX, INT, ROW);
        c.types("x takes one", m, m.other(3, h, c.shape(m, BOX, VOID), 0, 0, 0), BOX, INT, ROW);
        c.types("x takes all", m, m.other(3, h, c.shape(m, BOX, INT, VOID), 0, 0, 0), BOX, INT, ROW);
        c.types("h takes none", m, m.other(3, none, none, 0, 0, 0), VOID);
        state("x takes more", m, 3, h, c.shape(m, BOX, INT, INT, VOID), 0);
        state("x takes those behind the first one", m, 3, h, c.shape(m, INT, VOID), 0);
        state("h takes none, x one", m, 3, none, c.shape(m, INT, VOID), 0);
        int six = c.shape(m, INT, INT, INT, INT, INT, INT, VOID);
        c.types("six of six", m, m.other(3, six, six, 0, 0, 0), INT, INT, INT, INT, INT, INT, VOID);
    }

    private static void siftedPlaces() {
        c.says("4 SIFTED: VALUE at place a goes through x (takes one, gives the TYPE there); takes x's TYPE there.");
        HandleModels m = new HandleModels();
        int put = m.plain(9, 0, 0);
        int length = m.plain(10, 0, 0);
        int make = m.plain(11, 0, 0);
        int none = m.plain(0, INT, 0);
        for (int a : FAR) {
            outside("place " + a, m, 4, put, length, a, 0);
        }
        outside("place 3 of three", m, 4, put, length, 3, 0);
        outside("place 0 of none", m, 4, none, length, 0, 0);
        c.types("the first place", m, m.other(4, put, make, 0, 0, 0), INT, INT, INT, VOID);
        c.types("the last place", m, m.other(4, put, length, 0, 2, 0), ROW, INT, ROW, VOID);
        state("x gives no ROW", m, 4, put, length, 0);
        state("x gives no INT", m, 4, put, make, 1);
        state("x takes none", m, 4, put, none, 1);
        state("x takes two", m, 4, put, m.plain(2, 0, 0), 1);
        state("x gives VOID", m, 4, put, c.shape(m, INT, VOID), 1);
    }

    private static void then() {
        c.says("5 THEN x: what h gives goes through x (takes one of that TYPE; none of VOID).");
        HandleModels m = new HandleModels();
        for (int gives = INT; gives <= VOID; gives++) {
            int h = m.plain(12, gives, 0);
            for (int takes = INT; takes <= VOID; takes++) {
                int x = takes == VOID ? c.shape(m, LONG) : c.shape(m, takes, LONG);
                int made = m.other(5, h, x, 0, 0, 0);
                c.due("gives " + gives + ", x takes " + takes, made, gives == takes ? x + 1 : Checks.STATE);
            }
        }
        HandleModels o = new HandleModels();
        state("x takes two", o, 5, o.plain(0, INT, 0), o.plain(2, 0, 0), 0);
        int six = c.shape(o, INT, INT, INT, INT, INT, INT, VOID);
        c.types("six, THEN VOID", o, o.other(5, six, o.plain(0, VOID, 0), 0, 0, 0), INT, INT, INT, INT, INT, INT, VOID);
        state("of VOID, x takes six", o, 5, six, six, 0);
    }

    private static void chosen() {
        c.says("6 CHOSEN by h (gives an INT; takes the first ones of what x takes): .. (x and y are alike in all TYPES)");
        HandleModels m = new HandleModels();
        int x = c.shape(m, LONG, INT, VOID);
        int fits = c.shape(m, LONG, INT, INT);
        c.types("all of them", m, m.other(6, fits, x, x, 0, 0), LONG, INT, VOID);
        c.types("the first one", m, m.other(6, c.shape(m, LONG, INT), x, x, 0, 0), LONG, INT, VOID);
        c.types("none", m, m.other(6, m.plain(13, 0, 0), x, x, 0, 0), LONG, INT, VOID);
        c.due("one more", m.other(6, c.shape(m, LONG, INT, INT, INT), x, x, 0, 0), Checks.STATE);
        c.due("the second one", m.other(6, c.shape(m, INT, INT), x, x, 0, 0), Checks.STATE);
        int none = c.shape(m, ROW);
        for (int gives = LONG; gives <= VOID; gives++) {
            c.due("h gives " + gives, m.other(6, m.plain(12, gives, 0), none, none, 0, 0), Checks.STATE);
        }
        int test = m.plain(0, INT, 1);
        c.due("y takes one less", m.other(6, test, x, c.shape(m, LONG, VOID), 0, 0), Checks.STATE);
        c.due("y takes one more", m.other(6, test, c.shape(m, LONG, VOID), x, 0, 0), Checks.STATE);
        c.due("y gives another TYPE", m.other(6, test, x, fits, 0, 0), Checks.STATE);
        c.due("y takes another TYPE", m.other(6, test, x, c.shape(m, LONG, LONG, VOID), 0, 0), Checks.STATE);
    }

    private static void caughtNumbers() {
        c.says("7 CAUGHT: where h FAILS by a (1 to 6, 100 to 199; 0: any of these)");
        HandleModels m = new HandleModels();
        int h = m.plain(0, INT, 0);
        int x = m.plain(1, INT, 0);
        for (int a : new int[] {-1, 7, 8, 9, 10, 11, 50, 98, 99, 200, 201, -100, MAX, MIN}) {
            outside("by " + a, m, 7, h, x, a, 0);
        }
        for (int a : new int[] {0, 1, 2, 3, 4, 5, 6, 100, 101, 198, 199}) {
            c.due("by " + a + ", a HANDLE", m.other(7, h, x, 0, a, 0) >= 0 ? 1 : 0, 1);
        }
        c.due("ENDED has no number", m.other(8, h, c.shape(m, INT, VOID), 0, 77, 0) >= 0 ? 1 : 0, 1);
    }

    private static void caughtAndEndedTypes() {
        for (int form = 7; form <= 8; form++) {
            c.says(form == 7 ? "(x takes an INT, and what h takes; gives the same)" : "(x takes an INT and what h takes, is VOID)");
            HandleModels m = new HandleModels();
            int h = c.shape(m, LONG, ROW, form == 7 ? BOX : INT);
            int gives = form == 7 ? BOX : VOID;
            c.due("all of them", m.about(m.other(form, h, c.shape(m, INT, LONG, ROW, gives), 0, 0, 0), 0), 2);
            state("gives another TYPE", m, form, h, c.shape(m, INT, LONG, ROW, INT), 0);
            state("one less", m, form, h, c.shape(m, INT, LONG, gives), 0);
            state("one more", m, form, h, c.shape(m, INT, LONG, ROW, INT, gives), 0);
            state("no number", m, form, h, c.shape(m, LONG, ROW, gives), 0);
            state("a LONG as a number", m, form, h, c.shape(m, LONG, LONG, ROW, gives), 0);
            state("in another order", m, form, h, c.shape(m, INT, ROW, LONG, gives), 0);
            int five = c.shape(m, INT, INT, INT, INT, INT, VOID);
            int six = m.other(1, five, 0, 0, 0, INT);
            c.due("five, x takes six", m.about(m.other(form, five, six, 0, 0, 0), 0), 5);
            state("six, and no x takes seven", m, form, six, six, 0);
        }
    }

    private static void round() {
        c.says("9 ROUND: h takes nothing, gives an INT n; x takes T and an INT, gives T (not VOID); y takes nothing, gives T");
        HandleModels m = new HandleModels();
        int n = m.plain(0, INT, 1);
        for (int type = INT; type <= ROW; type++) {
            int x = c.shape(m, type, INT, type);
            c.types("T is TYPE " + type, m, m.other(9, n, x, m.plain(12, type, 0), 0, 0), type);
            c.due("y gives VOID", m.other(9, n, x, m.plain(12, VOID, 0), 0, 0), Checks.STATE);
        }
        HandleModels o = new HandleModels();
        int x = o.plain(2, 0, 0);
        int y = o.plain(0, INT, 1);
        for (int type = LONG; type <= VOID; type++) {
            c.due("h gives " + type, o.other(9, o.plain(12, type, 0), x, y, 0, 0), Checks.STATE);
            c.due("y gives " + type, o.other(9, y, x, o.plain(12, type, 0), 0, 0), Checks.STATE);
        }
        int same = o.plain(1, INT, 0);
        c.due("h takes one", o.other(9, same, x, y, 0, 0), Checks.STATE);
        c.due("y takes one", o.other(9, y, x, same, 0, 0), Checks.STATE);
        c.due("x takes one", o.other(9, y, same, y, 0, 0), Checks.STATE);
        c.due("x takes none", o.other(9, y, y, y, 0, 0), Checks.STATE);
        c.due("x takes three", o.other(9, y, o.other(1, x, 0, 0, 2, INT), y, 0, 0), Checks.STATE);
        c.due("x is VOID", o.other(9, y, c.shape(o, INT, INT, VOID), y, 0, 0), Checks.STATE);
        c.due("x is VOID, and so is y", o.other(9, y, c.shape(o, INT, INT, VOID), o.plain(0, VOID, 0), 0, 0), Checks.STATE);
        c.due("the number is a LONG", o.other(9, y, c.shape(o, INT, LONG, INT), y, 0, 0), Checks.STATE);
        c.due("the number comes first", o.other(9, y, c.shape(o, INT, LONG, LONG), o.plain(0, LONG, 0), 0, 0), Checks.STATE);
    }

    private static void spread() {
        c.says("10 SPREAD: the last a (1 to 6) of h are INTS: takes a ROW in their place");
        HandleModels m = new HandleModels();
        int six = c.shape(m, INT, INT, INT, INT, INT, INT, VOID);
        for (int a : new int[] {0, -1, 7, 8, MAX, MIN}) {
            outside(a + " of six", m, 10, six, 0, a, 0);
        }
        for (int a = 1; a <= 6; a++) {
            int made = m.other(10, six, 0, 0, a, 0);
            c.due(a + " of six", m.about(made, 0), 7 - a);
            c.due("a ROW is last", m.about(made, 7 - a), ROW);
        }
        int mixed = c.shape(m, INT, LONG, INT, INT, VOID);
        c.types("the last two", m, m.other(10, mixed, 0, 0, 2, 0), INT, LONG, ROW, VOID);
        state("the third last is a LONG", m, 10, mixed, 0, 3);
        state("so it is of four", m, 10, mixed, 0, 4);
        state("more than it takes", m, 10, mixed, 0, 5);
        state("none are there", m, 10, m.plain(0, INT, 0), 0, 1);
        state("the last is a ROW", m, 10, m.plain(10, 0, 0), 0, 1);
        state("the last is a BOX", m, 10, m.plain(1, BOX, 0), 0, 1);
    }

    private static void gathered() {
        c.says("11 GATHERED: the last of h is a ROW: takes a INTS (0 to 5) in its place");
        HandleModels m = new HandleModels();
        int length = m.plain(10, 0, 0);
        for (int a : new int[] {-1, 6, 7, MAX, MIN}) {
            outside(a + " INTS", m, 11, length, 0, a, 0);
        }
        c.types("0 INTS", m, m.other(11, length, 0, 0, 0, 0), INT);
        c.types("5 INTS", m, m.other(11, length, 0, 0, 5, 0), INT, INT, INT, INT, INT, INT);
        for (int type = INT; type <= BOX; type++) {
            state("the last is of TYPE " + type, m, 11, c.shape(m, ROW, type, INT), 0, 1);
        }
        state("h takes none", m, 11, m.plain(13, 0, 0), 0, 0);
        c.says("STATE: TYPES, more than 6");
        int six = c.shape(m, BOX, BOX, BOX, BOX, BOX, ROW, VOID);
        c.due("none of six", m.about(m.other(11, six, 0, 0, 0, 0), 0), 5);
        c.due("one of six", m.about(m.other(11, six, 0, 0, 1, 0), 0), 6);
        state("two of six", m, 11, six, 0, 2);
        state("five of six", m, 11, six, 0, 5);
        int two = c.shape(m, BOX, ROW, VOID);
        c.due("five of two", m.about(m.other(11, two, 0, 0, 5, 0), 0), 6);
        int three = c.shape(m, BOX, BOX, ROW, VOID);
        state("five of three", m, 11, three, 0, 5);
    }

    private static void adaptedAsMany() {
        c.says("12 ADAPTED to what x takes and gives (as many)");
        HandleModels m = new HandleModels();
        int none = m.plain(0, INT, 0);
        int one = m.plain(1, INT, 0);
        int two = m.plain(2, 0, 0);
        int six = c.shape(m, INT, INT, INT, INT, INT, INT, VOID);
        int[] all = {none, one, two, six};
        for (int h : all) {
            for (int x : all) {
                int made = m.other(12, h, x, 0, 0, 0);
                c.due("h " + h + ", x " + x, made >= 0 ? 1 : made, h == x ? 1 : Checks.STATE);
            }
        }
        int other = c.shape(m, BOX, BOX, BOX, BOX, BOX, LONG, INT);
        state("the last one does not adapt", m, 12, six, other, 0);
        c.due("the other way round it does", m.other(12, other, six, 0, 0, 0) >= 0 ? 1 : 0, 1);
    }
}
