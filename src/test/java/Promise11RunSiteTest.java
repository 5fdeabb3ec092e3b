/** Promise 11: runSite. */
public final class Promise11RunSiteTest {
    private static final Checks c = new Checks();
    private static final int INT = 0, LONG = 1;

    public static void main(String[] args) {
        unknown();
        linksOnce();
        doesNotLink();
        startsAgain();
        valuesFirst();
        steps();
        starterTakesNothing();
        deepStarter();
        c.end();
    }

    private static void runs(String what, HandleModels m, int s, long number) {
        c.due(what, m.runSite(s, true), 1);
        c.due(what + ", result", m.result(), number);
        c.due(what + ", told 6", m.told(6), 0);
    }

    private static void runFails(String what, HandleModels m, int s, boolean exact, int by) {
        c.due(what, m.runSite(s, exact), -10 - by);
        c.due(what + ", kind", m.resultKind(), 3);
        c.due(what + ", result", m.result(), 0);
        c.due(what + ", told 6", m.told(6), by);
    }

    private static void unknown() {
        HandleModels m = new HandleModels();
        int seven = m.plain(0, INT, 7);
        m.run(seven, true);
        c.due("no SITE", m.runSite(0, true), Checks.UNKNOWN);
        c.due("SITE -1", m.runSite(-1, true), Checks.UNKNOWN);
        c.due("the RESULT stays", m.result(), 7);
    }

    private static void linksOnce() {
        HandleModels m = new HandleModels();
        int plus = m.plain(2, 0, 0);
        int count = m.plain(13, 0, 0);
        int less = m.plain(3, 0, 0);
        m.plain(4, 0, 0);
        int starter = m.other(5, count, m.plain(1, INT, 0), 0, 0, 0);
        c.ints(m, 7, 4);
        m.run(count, true);
        c.due("WRONG does not count", m.told(5), 0);
        m.clear();
        m.run(count, true);
        c.ints(m, 7, 4);
        int s = m.site(plus, starter);
        runs("linked to less, not to plus", m, s, 3);
        c.due("less", m.linked(s), less);
        c.due("three of the STARTER, one of less", m.told(4), 4);
        runs("again", m, s, 3);
        c.due("the STARTER is not done again", m.told(4), 1);
        c.due("counted", m.told(5), 2);
    }

    private static void doesNotLink() {
        HandleModels m = new HandleModels();
        int plus = m.plain(2, 0, 0);
        int same = m.plain(1, INT, 0);
        int wide = m.plain(7, 0, 0);
        int voids = m.other(1, m.other(1, m.plain(0, 4, 0), 0, 0, 0, INT), 0, 0, 0, INT);
        c.ints(m, 1, 2);
        for (int number : new int[] {-1, 50, same, wide, voids, Integer.MAX_VALUE, Integer.MIN_VALUE}) {
            int s = m.site(plus, m.plain(0, INT, number));
            runFails("number " + number, m, s, true, 8);
            c.due("is not LINKED", m.linked(s), Checks.NONE);
            c.due("the STARTER's STEP", m.told(4), 1);
        }
    }

    private static void startsAgain() {
        HandleModels m = new HandleModels();
        int count = m.plain(13, 0, 0);
        int fail = m.plain(12, INT, 5);
        int failing = m.site(count, fail);
        runFails("the STARTER FAILS", m, failing, true, 105);
        c.due("is not LINKED", m.linked(failing), Checks.NONE);
        int s = m.site(fail, count);
        runFails("LINKED to what FAILS", m, s, true, 105);
        c.due("is LINKED", m.linked(s), fail);
        c.due("STARTER and HANDLE", m.told(4), 2);
        int later = m.site(m.plain(0, INT, 1), count);
        runFails("LINKED to it still", m, s, true, 105);
        runs("LINKED to 2", m, later, 1);
        c.due("2", m.linked(later), 2);
        int third = m.site(m.plain(0, LONG, 1), count);
        runFails("3 gives a LONG: LINK", m, m.site(fail, m.plain(0, INT, 3)), true, 8);
        c.due("3 fits the third", m.runSite(third, true), 1);
        c.due("3", m.linked(third), 3);
        int fourth = m.site(m.plain(0, LONG, 1), count);
        runFails("4 does not fit: LINK", m, fourth, true, 8);
        c.due("the next RUN does it again: 5", m.runSite(fourth, true), 1);
        c.due("5", m.linked(fourth), 5);
    }

    private static void valuesFirst() {
        HandleModels m = new HandleModels();
        int same = m.plain(1, LONG, 0);
        int count = m.plain(13, 0, 0);
        int starter = m.other(5, count, m.other(1, m.plain(0, INT, same), 0, 0, 0, INT), 0, 0, 0);
        int s = m.site(same, starter);
        runFails("WRONG: how many", m, s, true, 7);
        c.ints(m, 5);
        runFails("WRONG: an INT, exactly", m, s, true, 7);
        c.values(m, 3, 0);
        runFails("NULL, adapting", m, s, false, 3);
        c.due("no STEP", m.told(4), 0);
        c.due("the STARTER is not done", m.told(5), 0);
        c.due("is not LINKED", m.linked(s), Checks.NONE);
        c.ints(m, 5);
        c.due("adapting", m.runSite(s, false), 1);
        c.due("a LONG", m.resultKind(), 1);
        c.due("5", m.result(), 5);
        runFails("LINKED, exactly", m, s, true, 7);
        c.values(m, 3, 0);
        runFails("LINKED, NULL", m, s, false, 3);
    }

    private static void steps() {
        HandleModels m = new HandleModels();
        int plus = m.plain(2, 0, 0);
        int nought = m.plain(0, INT, 0);
        int fortyRounds = m.other(9, m.plain(0, INT, 40), plus, nought, 0, 0);
        int number = m.other(5, fortyRounds, m.other(1, m.plain(0, INT, fortyRounds), 0, 0, 0, INT), 0, 0, 0);
        int s = m.site(nought, number);
        runFails("STEPS count: the STARTER's and the HANDLE's", m, s, true, 9);
        c.due("LINKED all the same", m.linked(s), fortyRounds);
        runs("then it is done alone", m, s, 40 * 39 / 2);
        c.due("43", m.told(4), 43);
        int spent = m.site(nought, m.other(9, m.plain(0, INT, 99), plus, nought, 0, 0));
        runFails("the STARTER is SPENT", m, spent, true, 9);
        c.due("not LINKED", m.linked(spent), Checks.NONE);
    }

    /** The STARTER has no VALUES, and those of the RUN are as they were behind it. */
    private static void starterTakesNothing() {
        HandleModels m = new HandleModels();
        int less = m.plain(3, 0, 0);
        int left = m.other(1, m.other(1, less, 0, 0, 0, LONG), 0, 0, 3, 3);
        int number = m.plain(0, INT, left);
        int starter = m.other(2, m.other(12, number, number, 0, 0, 0), 0, 0, 0, 0);
        m.row(1);
        c.values(m, 1, 5, 0, 9, 0, 2, 2, 0);
        c.due("a RUN with VALUES at all depths", m.run(left, true), 1);
        int s = m.site(left, starter);
        runs("9 less 2", m, s, 7);
        c.due("three of the STARTER, three of the HANDLE", m.told(4), 6);
        int other = m.site(left, starter);
        c.values(m, 0, 5, 0, 9, 0, 2, 3, 0);
        c.due("adapting", m.runSite(other, false), 1);
        c.due("9 less 2 again", m.result(), 7);
    }

    private static void deepStarter() {
        HandleModels m = new HandleModels();
        int starter = m.plain(0, INT, 0);
        for (int k = 1; k < 60; k++) {
            starter = m.other(2, starter, 0, 0, 0, 0);
        }
        int s = m.site(starter, starter);
        runs("60 HANDLES within another", m, s, 0);
        c.due("LINKED to the first one", m.linked(s), 0);
        c.due("60 STEPS and one", m.told(4), 61);
    }
}
