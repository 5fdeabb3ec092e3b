/** Promise 3: what OTHERS do, in which order, and by what they FAIL. */
public final class Promise03OtherStepsTest {
    private static final Checks c = new Checks();
    private static final int INT = 0, LONG = 1, BOX = 2, ROW = 3, VOID = 4;
    private static final int GIVE = 0, SAME = 1, PLUS = 2, LESS = 3, TIMES = 4, BY = 5, BELOW = 6, PLUS_LONG = 7;
    private static final int ITEM = 8, PUT = 9, LENGTH = 10, NEW_ROW = 11, FAIL = 12, COUNT = 13;

    public static void main(String[] args) {
        bound();
        left();
        moved();
        folded();
        siftedAndThen();
        chosen();
        caught();
        ended();
        endedInPlace();
        round();
        spread();
        gathered();
        adapted();
        c.end();
    }

    private static void bound() {
        HandleModels m = new HandleModels();
        int less = m.plain(LESS, 0, 0);
        c.ints(m, 10);
        int from = m.other(0, less, 0, 0, 0, 0);
        int of = m.other(0, less, 0, 0, 1, 0);
        int wide = m.other(0, m.plain(PLUS_LONG, 0, 0), 0, 0, 0, 0);
        int box = m.other(0, m.plain(SAME, BOX, 0), 0, 0, 0, 0);
        c.ints(m, 3);
        c.gives("10 less 3", m, from, 7);
        c.gives("3 less 10", m, of, -7);
        c.due("two STEPS", m.told(4), 2);
        c.values(m, 1, 4);
        c.gives("the INT is a LONG as it is bound", m, wide, true, 1, 14);
        m.clear();
        c.gives("boxed", m, box, 10);
        c.values(m, 3, 0);
        int nothing = m.other(0, m.plain(LENGTH, 0, 0), 0, 0, 0, 0);
        m.clear();
        c.fails("NOTHING bound", m, nothing, 3);
        m.row(2);
        c.values(m, 2, 0);
        int row = m.other(0, m.plain(ITEM, 0, 0), 0, 0, 0, 0);
        m.set(0, 1, 77);
        c.ints(m, 1);
        c.gives("a ROW is bound, not its items", m, row, 77);
    }

    private static void left() {
        HandleModels m = new HandleModels();
        int less = m.plain(LESS, 0, 0);
        int first = m.other(1, less, 0, 0, 0, INT);
        int middle = m.other(1, less, 0, 0, 1, INT);
        int last = m.other(1, less, 0, 0, 2, INT);
        c.ints(m, 100, 20, 3);
        c.gives("first left", m, first, 17);
        c.gives("middle left", m, middle, 97);
        c.gives("last left", m, last, 80);
        c.due("two STEPS", m.told(4), 2);
    }

    private static void moved() {
        HandleModels m = new HandleModels();
        int less = m.plain(LESS, 0, 0);
        c.ints(m, 9, 4);
        c.gives("01", m, m.other(2, less, 0, 0, 1, 0), 5);
        c.gives("10", m, m.other(2, less, 0, 0, 10, 0), -5);
        int put = m.plain(PUT, 0, 0);
        int move = m.other(2, put, 0, 0, 201, 0);
        m.row(3);
        c.values(m, 0, 1, 0, 55, 2, 0);
        c.givesNothing("201: ROW from place 2, INT from 0, INT from 1", m, move);
        c.due("item", m.item(0, 1), 1);
        c.due("item 1", m.result(), 55);
    }

    private static void folded() {
        HandleModels m = new HandleModels();
        int plus = m.plain(PLUS, 0, 0);
        int less = m.plain(LESS, 0, 0);
        int three = m.other(1, less, 0, 0, 2, INT);
        c.ints(m, 5, 8);
        c.gives("(5 + 8) less 5", m, m.other(3, three, plus, 0, 0, 0), 8);
        c.due("FOLDED, plus, LEFT, less", m.told(4), 4);
        int same = m.plain(SAME, INT, 0);
        c.ints(m, 5, 8);
        c.gives("first ones: 5 less 5", m, m.other(3, three, same, 0, 0, 0), 0);
        int count = m.plain(COUNT, 0, 0);
        c.ints(m, 50);
        c.gives("none of them: 1 less 50", m, m.other(3, less, count, 0, 0, 0), -49);
        m.row(1);
        int length = m.plain(LENGTH, 0, 0);
        int item = m.plain(ITEM, 0, 0);
        int put = m.plain(PUT, 0, 0);
        c.ints(m, 31);
        int putIt = m.other(0, put, 0, 0, 2, 0);
        c.values(m, 2, 0, 0, 0);
        c.gives("VOID is done ahead", m, m.other(3, item, putIt, 0, 0, 0), 31);
        int failing = m.plain(FAIL, VOID, 1);
        c.values(m, 3, 0);
        c.fails("x ahead of h", m, m.other(3, length, failing, 0, 0, 0), 101);
        c.due("h is not done", m.told(4), 2);
    }

    private static void siftedAndThen() {
        HandleModels m = new HandleModels();
        int less = m.plain(LESS, 0, 0);
        int length = m.plain(LENGTH, 0, 0);
        int make = m.plain(NEW_ROW, 0, 0);
        m.row(4);
        c.values(m, 0, 10, 2, 0);
        int second = m.other(4, less, length, 0, 1, 0);
        c.gives("10 less how long", m, second, 6);
        c.due("three STEPS", m.told(4), 3);
        c.values(m, 0, 10, 3, 0);
        c.fails("through x: NULL", m, second, 3);
        c.due("h is not done", m.told(4), 2);
        c.values(m, 2, 0, 0, 10);
        c.gives("how long less 10", m, m.other(4, less, length, 0, 0, 0), -6);
        int then = m.other(5, make, length, 0, 0, 0);
        c.ints(m, 7);
        c.gives("a ROW, THEN how long", m, then, 7);
        c.due("THEN is three STEPS", m.told(4), 3);
        c.ints(m, -7);
        c.fails("h FAILS", m, then, 5);
        c.due("x is not done", m.told(4), 2);
        int count = m.plain(COUNT, 0, 0);
        int nothing = m.plain(GIVE, VOID, 0);
        m.clear();
        c.gives("VOID THEN COUNT", m, m.other(5, nothing, count, 0, 0, 0), 1);
    }

    private static void chosen() {
        HandleModels m = new HandleModels();
        int less = m.plain(LESS, 0, 0);
        int plus = m.plain(PLUS, 0, 0);
        int below = m.plain(BELOW, 0, 0);
        int first = m.plain(SAME, INT, 0);
        int byTwo = m.other(6, below, plus, less, 0, 0);
        int byOne = m.other(6, first, plus, less, 0, 0);
        c.ints(m, 3, 4);
        c.gives("below: plus", m, byTwo, 7);
        c.due("three STEPS", m.told(4), 3);
        c.ints(m, 4, 3);
        c.gives("not below: less", m, byTwo, 1);
        c.ints(m, 0, 3);
        c.gives("0: less", m, byOne, -3);
        c.ints(m, -1, 3);
        c.gives("not 0: plus", m, byOne, 2);
        int failing = m.plain(FAIL, INT, 7);
        c.fails("the test FAILS", m, m.other(6, failing, plus, less, 0, 0), 107);
        c.due("none is done", m.told(4), 2);
    }

    private static void caught() {
        HandleModels m = new HandleModels();
        int by = m.plain(BY, 0, 0);
        int plus = m.plain(PLUS, 0, 0);
        int hundred = m.plain(TIMES, 0, 0);
        int handler = m.other(1, m.other(1, m.plain(SAME, INT, 0), 0, 0, 1, INT), 0, 0, 1, INT);
        int adds = m.other(1, plus, 0, 0, 2, INT);
        c.ints(m, 7, 0);
        c.gives("the number it FAILED by", m, m.other(7, by, handler, 0, 1, 0), 1);
        c.due("CAUGHT, by, and three of x", m.told(4), 5);
        c.gives("any of these, and the VALUES", m, m.other(7, by, adds, 0, 0, 0), 8);
        c.fails("another number", m, m.other(7, by, adds, 0, 2, 0), 1);
        c.ints(m, 7, 2);
        c.gives("not FAILED", m, m.other(7, by, adds, 0, 0, 0), 3);
        c.gives("not FAILED at all", m, m.other(7, hundred, adds, 0, 0, 0), 14);
        m.clear();
        int fail = m.plain(FAIL, INT, 44);
        int same = m.plain(SAME, INT, 0);
        c.gives("its own", m, m.other(7, fail, same, 0, 144, 0), 144);
        c.gives("any", m, m.other(7, fail, same, 0, 0, 0), 144);
        c.fails("another own one", m, m.other(7, fail, same, 0, 143, 0), 144);
        int lowest = m.plain(FAIL, INT, 0);
        int highest = m.plain(FAIL, INT, 99);
        c.gives("its lowest", m, m.other(7, lowest, same, 0, 100, 0), 100);
        c.gives("its lowest, of any", m, m.other(7, lowest, same, 0, 0, 0), 100);
        c.gives("its highest, of any", m, m.other(7, highest, same, 0, 0, 0), 199);
        int again = m.other(1, m.plain(FAIL, INT, 2), 0, 0, 0, INT);
        c.fails("x FAILS", m, m.other(7, fail, again, 0, 0, 0), 102);
        notCaught();
    }

    private static void notCaught() {
        HandleModels m = new HandleModels();
        int make = m.plain(NEW_ROW, 0, 0);
        m.row(0);
        c.values(m, 2, 0);
        int row = m.other(0, m.plain(SAME, ROW, 0), 0, 0, 0, 0);
        int instead = m.other(1, m.other(1, row, 0, 0, 0, INT), 0, 0, 0, INT);
        int any = m.other(7, make, instead, 0, 0, 0);
        c.ints(m, -1);
        c.gives("SIZE is caught", m, any, true, 2, 0);
        c.ints(m, 21);
        c.gives("ILLEGAL is caught", m, any, true, 2, 0);
        for (int k = m.told(1); k < 60; k++) {
            m.row(0);
        }
        c.ints(m, 1);
        c.fails("ROOM is not caught", m, any, 10);
        int many = m.plain(GIVE, INT, 1000);
        int plus = m.plain(PLUS, 0, 0);
        int round = m.other(9, many, plus, many, 0, 0);
        m.clear();
        c.fails("SPENT is not caught", m, m.other(7, round, m.plain(SAME, INT, 0), 0, 0, 0), 9);
    }

    /** A VOID HANDLE that puts the INT that it takes into item 0 of ROW 0. */
    private static int keeper(HandleModels m) {
        m.row(1);
        c.values(m, 2, 0);
        int put = m.other(0, m.plain(PUT, 0, 0), 0, 0, 0, 0);
        c.ints(m, 0);
        return m.other(0, put, 0, 0, 0, 0);
    }

    private static void kept(String what, HandleModels m, int number) {
        m.item(0, 0);
        c.due(what, m.result(), number);
    }

    private static void ended() {
        HandleModels m = new HandleModels();
        int keep = keeper(m);
        int make = m.plain(NEW_ROW, 0, 0);
        int five = m.plain(GIVE, INT, 5);
        int fail = m.plain(FAIL, INT, 3);
        m.clear();
        m.set(0, 0, -1);
        c.gives("h gives", m, m.other(8, five, keep, 0, 0, 0), 5);
        c.due("ENDED, h, BOUND, BOUND, PUT", m.told(4), 5);
        kept("not FAILED: 0", m, 0);
        c.fails("h FAILS by its own", m, m.other(8, fail, keep, 0, 0, 0), 103);
        kept("FAILED by 103", m, 103);
        int ended = m.other(8, make, m.other(1, keep, 0, 0, 1, INT), 0, 0, 0);
        c.ints(m, -1);
        c.fails("h FAILS by SIZE", m, ended, 5);
        kept("FAILED by 5", m, 5);
        c.ints(m, 3);
        c.gives("h gives a ROW", m, ended, true, 2, 1);
        for (int k = m.told(1); k < 60; k++) {
            m.row(0);
        }
        c.fails("h FAILS by ROOM", m, ended, 10);
        kept("FAILED by ROOM: 99", m, 99);
    }

    private static void endedInPlace() {
        HandleModels m = new HandleModels();
        int same = m.plain(SAME, INT, 0);
        int length = m.plain(LENGTH, 0, 0);
        int fail = m.plain(FAIL, VOID, 1);
        int last = m.other(1, m.other(1, fail, 0, 0, 0, INT), 0, 0, 1, INT);
        c.ints(m, 4);
        c.fails("x FAILS where h gave", m, m.other(8, same, last, 0, 0, 0), 101);
        int ofRow = m.other(1, m.other(1, fail, 0, 0, 0, INT), 0, 0, 1, ROW);
        c.values(m, 3, 0);
        c.fails("x FAILS in place of h", m, m.other(8, length, ofRow, 0, 0, 0), 101);
        int keep = keeper(m);
        int many = m.plain(GIVE, INT, 1000);
        int round = m.other(9, many, m.plain(PLUS, 0, 0), many, 0, 0);
        m.clear();
        m.set(0, 0, -1);
        c.fails("SPENT: no STEP is left for x", m, m.other(8, round, keep, 0, 0, 0), 9);
        kept("x is SPENT too", m, -1);
    }

    private static void round() {
        HandleModels m = new HandleModels();
        int twelve = m.plain(GIVE, INT, 12);
        int one = m.plain(GIVE, INT, 1);
        int times = m.plain(TIMES, 0, 0);
        int plus = m.plain(PLUS, 0, 0);
        c.gives("1 + 0 + 1 + .. + 11", m, m.other(9, twelve, plus, one, 0, 0), 67);
        c.due("ROUND, n, y and twelve", m.told(4), 15);
        int product = m.other(1, m.other(1, m.plain(GIVE, INT, 9), 0, 0, 0, INT), 0, 0, 1, INT);
        c.gives("x gives what is next", m, m.other(9, one, product, one, 0, 0), 9);
        for (int n : new int[] {0, -1, Integer.MIN_VALUE}) {
            c.gives("none below 1", m, m.other(9, m.plain(GIVE, INT, n), times, one, 0, 0), 1);
            c.due("ROUND, n and y", m.told(4), 3);
        }
        int count = m.plain(COUNT, 0, 0);
        int less = m.plain(LESS, 0, 0);
        c.gives("n ahead of y: 1 time, from 2", m, m.other(9, count, less, count, 0, 0), 2);
        int fail = m.plain(FAIL, INT, 0);
        c.fails("n FAILS", m, m.other(9, fail, less, count, 0, 0), 100);
        c.due("y is not done", m.told(5), 2);
        c.fails("y FAILS", m, m.other(9, count, less, fail, 0, 0), 100);
        c.due("n is done", m.told(5), 3);
        roundBehindOthers();
        int by = m.plain(BY, 0, 0);
        c.fails("x FAILS at round 0", m, m.other(9, twelve, by, one, 0, 0), 1);
        c.due("ROUND, n, y and one", m.told(4), 4);
    }

    /** n and y take nothing, whatever VALUES the STEP ahead of them had. */
    private static void roundBehindOthers() {
        HandleModels m = new HandleModels();
        int plus = m.plain(PLUS, 0, 0);
        int two = m.other(12, m.other(2, m.plain(GIVE, INT, 2), 0, 0, 0, 0), m.plain(GIVE, INT, 0), 0, 0, 0);
        c.ints(m, 3, 4);
        int seven = m.other(0, plus, 0, 0, 0, 0);
        c.ints(m, 4);
        seven = m.other(0, seven, 0, 0, 0, 0);
        int round = m.other(9, two, plus, two, 0, 0);
        int ofRound = m.other(9, seven, plus, round, 0, 0);
        m.clear();
        c.gives("two times from two: 2 + 0 + 1", m, round, 3);
        int ofNone = m.other(11, m.plain(LENGTH, 0, 0), 0, 0, 0, 0);
        c.gives("a RUN that leaves VALUES", m, seven, 7);
        c.gives("n is how long an empty ROW is", m, m.other(9, ofNone, plus, ofNone, 0, 0), 0);
        c.gives("seven times from three", m, ofRound, 3 + 21);
        c.gives("THEN a ROUND", m, m.other(5, m.other(12, seven, m.plain(GIVE, VOID, 0), 0, 0, 0), round, 0, 0, 0), 3);
    }

    private static void spread() {
        HandleModels m = new HandleModels();
        int less = m.plain(LESS, 0, 0);
        int two = m.other(10, less, 0, 0, 2, 0);
        int one = m.other(10, less, 0, 0, 1, 0);
        m.row(2);
        m.set(0, 0, 30);
        m.set(0, 1, 4);
        m.row(1);
        m.set(1, 0, 6);
        m.row(0);
        m.row(3);
        c.values(m, 2, 0);
        c.gives("both", m, two, 26);
        c.due("two STEPS", m.told(4), 2);
        c.values(m, 0, 1, 2, 1);
        c.gives("the last", m, one, -5);
        for (int row : new int[] {1, 2, 3}) {
            c.values(m, 2, row);
            c.fails("not just two", m, two, 6);
            c.due("h is not done", m.told(4), 1);
        }
        c.values(m, 3, 0);
        c.fails("NOTHING", m, two, 3);
    }

    private static void gathered() {
        HandleModels m = new HandleModels();
        int same = m.plain(SAME, ROW, 0);
        int three = m.other(11, same, 0, 0, 3, 0);
        int none = m.other(11, same, 0, 0, 0, 0);
        int item = m.other(11, m.other(2, m.plain(ITEM, 0, 0), 0, 0, 10, 0), 0, 0, 2, 0);
        c.ints(m, 7, 8, 9);
        c.gives("a new ROW", m, three, true, 2, 0);
        c.due("two STEPS", m.told(4), 2);
        for (int k = 0; k < 3; k++) {
            m.item(0, k);
            c.due("item " + k, m.result(), 7 + k);
        }
        c.due("of three", m.item(0, 3), Checks.UNKNOWN);
        m.clear();
        c.gives("an empty ROW", m, none, true, 2, 1);
        c.due("of none", m.item(1, 0), Checks.UNKNOWN);
        c.ints(m, 1, 50, 60);
        c.gives("behind another one", m, item, 60);
        for (int k = m.told(1); k < 60; k++) {
            m.row(0);
        }
        c.fails("ROOM", m, item, 10);
        c.due("h is not done", m.told(4), 1);
    }

    private static void adapted() {
        HandleModels m = new HandleModels();
        int sameInt = m.plain(SAME, INT, 0);
        int sameLong = m.plain(SAME, LONG, 0);
        int sameBox = m.plain(SAME, BOX, 0);
        int unbox = m.other(12, sameInt, sameBox, 0, 0, 0);
        int unboxLong = m.other(12, sameLong, sameBox, 0, 0, 0);
        c.ints(m, 5);
        c.gives("BOX to INT", m, unbox, 5);
        c.due("two STEPS", m.told(4), 2);
        c.gives("BOX to LONG widens", m, unboxLong, true, 1, 5);
        c.values(m, 1, 5);
        c.fails("CAST of a LONG", m, unbox, 2);
        c.due("ahead of h", m.told(4), 1);
        c.gives("BOX to LONG", m, unboxLong, true, 1, 5);
        c.values(m, 3, 0);
        c.fails("NULL to INT", m, unbox, 3);
        c.fails("NULL to LONG", m, unboxLong, 3);
        int boxed = m.other(12, sameBox, sameInt, 0, 0, 0);
        c.ints(m, 6);
        c.gives("INT to BOX and back", m, boxed, 6);
        m.clear();
        adaptedGiven(m);
        adaptedInOrder();
    }

    private static void adaptedGiven(HandleModels m) {
        int box = m.plain(GIVE, BOX, 8);
        int toInt = m.plain(GIVE, INT, 0);
        int toLong = m.plain(GIVE, LONG, 0);
        int toVoid = m.plain(GIVE, VOID, 0);
        int toRow = m.plain(FAIL, ROW, 0);
        int toBox = m.plain(FAIL, BOX, 0);
        c.gives("gives a BOX as LONG", m, m.other(12, box, toLong, 0, 0, 0), true, 1, 8);
        c.gives("gives a BOX as INT", m, m.other(12, box, toInt, 0, 0, 0), true, 0, 8);
        c.gives("gives an INT as VOID", m, m.other(12, box, toVoid, 0, 0, 0), true, 3, 0);
        c.gives("gives VOID as INT", m, m.other(12, toVoid, toInt, 0, 0, 0), true, 0, 0);
        c.gives("gives VOID as LONG", m, m.other(12, toVoid, toLong, 0, 0, 0), true, 1, 0);
        int nothing = m.other(12, toVoid, toBox, 0, 0, 0);
        c.gives("gives VOID as BOX", m, nothing, true, 3, 0);
        c.gives("gives VOID as ROW", m, m.other(12, toVoid, toRow, 0, 0, 0), true, 3, 0);
        c.fails("gives NOTHING as INT", m, m.other(12, nothing, toInt, 0, 0, 0), 3);
        int wide = m.other(12, m.plain(GIVE, LONG, 4), toBox, 0, 0, 0);
        c.fails("gives a LONG as INT", m, m.other(12, wide, toInt, 0, 0, 0), 2);
    }

    private static void adaptedInOrder() {
        HandleModels m = new HandleModels();
        int plus = m.plain(PLUS, 0, 0);
        int boxes = m.other(1, m.other(1, m.plain(GIVE, INT, 0), 0, 0, 0, BOX), 0, 0, 0, BOX);
        int adapted = m.other(12, plus, boxes, 0, 0, 0);
        c.values(m, 1, 5, 3, 0);
        c.fails("CAST first", m, adapted, 2);
        c.values(m, 3, 0, 1, 5);
        c.fails("NULL first", m, adapted, 3);
    }
}
