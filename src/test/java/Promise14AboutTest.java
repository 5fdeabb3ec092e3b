/** Promise 14: about. */
public final class Promise14AboutTest {
    public static void main(String[] args) {
        Checks c = new Checks();
        HandleModels m = new HandleModels();
        c.due("no HANDLE", m.about(0, 0), Checks.UNKNOWN);
        int put = m.plain(9, 0, 0);
        int none = m.plain(0, 2, 0);
        c.due("HANDLE -1", m.about(-1, 0), Checks.UNKNOWN);
        c.due("UNKNOWN ahead of OUTSIDE", m.about(2, 9), Checks.UNKNOWN);
        c.due("-1", m.about(put, -1), Checks.OUTSIDE);
        c.due("8", m.about(put, 8), Checks.OUTSIDE);
        c.due("lowest", m.about(put, Integer.MIN_VALUE), Checks.OUTSIDE);
        c.due("4 of three", m.about(put, 4), Checks.OUTSIDE);
        c.types("put", m, put, 3, 0, 0, 4);
        c.types("none", m, none, 2);
        int six = none;
        for (int k = 0; k < 6; k++) {
            six = m.other(1, six, 0, 0, k, k % 4);
        }
        c.types("six", m, six, 0, 1, 2, 3, 0, 1, 2);
        c.due("no RESULT", m.resultKind(), 3);
        c.end();
    }
}
