/** Promise 13: linked. */
public final class Promise13LinkedTest {
    public static void main(String[] args) {
        Checks c = new Checks();
        HandleModels m = new HandleModels();
        c.due("no SITE", m.linked(0), Checks.UNKNOWN);
        int one = m.plain(0, 0, 1);
        int two = m.plain(0, 0, 0);
        int a = m.site(one, one);
        int b = m.site(one, two);
        c.due("SITE -1", m.linked(-1), Checks.UNKNOWN);
        c.due("SITE 2", m.linked(2), Checks.UNKNOWN);
        c.due("not LINKED", m.linked(a), Checks.NONE);
        m.runSite(a, true);
        c.due("LINKED to 1", m.linked(a), 1);
        c.due("the other one is not", m.linked(b), Checks.NONE);
        m.runSite(b, false);
        c.due("LINKED to 0", m.linked(b), 0);
        for (int k = m.told(2); k < 10; k++) {
            m.site(one, one);
        }
        c.due("the last SITE", m.linked(9), Checks.NONE);
        c.due("none behind it", m.linked(10), Checks.UNKNOWN);
        c.end();
    }
}
