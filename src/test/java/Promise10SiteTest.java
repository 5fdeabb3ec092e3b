/** Promise 10: site. */
public final class Promise10SiteTest {
    public static void main(String[] args) {
        Checks c = new Checks();
        HandleModels m = new HandleModels();
        int plus = m.plain(2, 0, 0);
        int starter = m.plain(0, 0, 0);
        c.due("no h", m.site(2, starter), Checks.UNKNOWN);
        c.due("no STARTER", m.site(plus, -1), Checks.UNKNOWN);
        c.due("UNKNOWN ahead of STATE", m.site(-1, plus), Checks.UNKNOWN);
        c.due("the STARTER takes something", m.site(plus, plus), Checks.STATE);
        for (int type = 1; type <= 4; type++) {
            c.due("gives TYPE " + type, m.site(plus, m.plain(12, type, 0)), Checks.STATE);
        }
        c.due("none is made", m.told(2), 0);
        for (int k = 0; k < 10; k++) {
            c.due("SITE " + k, m.site(plus, starter), k);
            c.due("is not LINKED", m.linked(k), Checks.NONE);
        }
        c.due("an 11th", m.site(plus, starter), Checks.FULL);
        c.due("STATE ahead of FULL", m.site(plus, plus), Checks.STATE);
        c.due("UNKNOWN ahead of FULL", m.site(99, starter), Checks.UNKNOWN);
        c.due("10 SITES", m.told(2), 10);
        c.due("nothing is done", m.told(4), 0);
        c.end();
    }
}
