/** Promise 1: nothing is there. */
public final class Promise01NewObjectTest {
    public static void main(String[] args) {
        Checks c = new Checks();
        HandleModels m = new HandleModels();
        for (int what = 0; what <= 6; what++) {
            c.due("told " + what, m.told(what), 0);
        }
        c.due("kind at first", m.resultKind(), 3);
        c.due("result at first", m.result(), 0);
        c.due("no HANDLE", m.run(0, true), Checks.UNKNOWN);
        c.due("no HANDLE to tell about", m.about(0, 0), Checks.UNKNOWN);
        c.due("no HANDLE to put in another", m.other(1, 0, 0, 0, 0, 0), Checks.UNKNOWN);
        c.due("no ROW", m.item(0, 0), Checks.UNKNOWN);
        c.due("no ROW to give", m.plain(0, 3, 0), Checks.UNKNOWN);
        c.due("no SITE", m.runSite(0, true), Checks.UNKNOWN);
        c.due("no link", m.linked(0), Checks.UNKNOWN);
        c.due("no VALUES", m.clear(), 0);

        HandleModels other = new HandleModels();
        m.plain(13, 0, 0);
        m.row(3);
        m.run(0, true);
        c.due("another object has its own HANDLES", other.told(0), 0);
        c.due("another object has its own ROWS", other.told(1), 0);
        c.due("another object counts for itself", other.told(5), 0);
        c.end();
    }
}
