/** Promise 12: turn. */
public final class Promise12TurnTest {
    public static void main(String[] args) {
        Checks c = new Checks();
        HandleModels m = new HandleModels();
        int plus = m.plain(2, 0, 0);
        int less = m.plain(3, 0, 0);
        int same = m.plain(1, 0, 0);
        int voids = m.other(1, m.other(1, m.plain(0, 4, 0), 0, 0, 0, 0), 0, 0, 0, 0);
        int s = m.site(plus, m.plain(0, 0, plus));
        c.due("no SITE", m.turn(1, plus), Checks.UNKNOWN);
        c.due("SITE -1", m.turn(-1, plus), Checks.UNKNOWN);
        c.due("no HANDLE", m.turn(s, 99), Checks.UNKNOWN);
        c.due("not LINKED", m.turn(s, less), Checks.STATE);
        c.ints(m, 9, 2);
        m.runSite(s, true);
        c.due("plus", m.result(), 11);
        c.due("no HANDLE -1", m.turn(s, -1), Checks.UNKNOWN);
        c.due("takes others", m.turn(s, same), Checks.STATE);
        c.due("gives another one", m.turn(s, voids), Checks.STATE);
        c.due("still plus", m.linked(s), plus);
        c.due("turned", m.turn(s, less), 1);
        c.due("less", m.linked(s), less);
        c.due("its run", m.runSite(s, true), 1);
        c.due("9 less 2", m.result(), 7);
        c.due("no STARTER", m.told(4), 1);
        c.due("turned back", m.turn(s, plus), 1);
        c.due("to the same", m.turn(s, plus), 1);
        c.due("plus again", m.linked(s), plus);
        c.end();
    }
}
