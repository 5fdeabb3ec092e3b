/** The boundary cases of SITES: made, LINKED once by a STARTER, turned, told. */
public final class EdgesOfSitesTest {
    private static final Checks c = new Checks();
    private static final int INT = 0, LONG = 1, BOX = 2, ROW = 3, VOID = 4;
    private static final int MAX = Integer.MAX_VALUE, MIN = Integer.MIN_VALUE;

    public static void main(String[] args) {
        numbered();
        starterTypes();
        typesOfHandle();
        valuesAheadOfStarter();
        starterTakesNothing();
        linkedToNumber();
        notLinked();
        linkedLater();
        starterFails();
        starterIsDoneOnce();
        stepsCount();
        starterSpent();
        linkedThoughItFails();
        turned();
        turnRefused();
        unknownNumbers();
        c.end();
    }

    private static void runFails(String what, HandleModels m, int s, boolean exact, int by, int steps) {
        c.due(what, m.runSite(s, exact), -10 - by);
        c.due(what + ", kind", m.resultKind(), 3);
        c.due(what + ", result", m.result(), 0);
        c.due(what + ", told 6", m.told(6), by);
        c.due(what + ", STEPS", m.told(4), steps);
    }

    private static void runGives(String what, HandleModels m, int s, boolean exact, long number, int steps) {
        c.due(what, m.runSite(s, exact), 1);
        c.due(what + ", result", m.result(), number);
        c.due(what + ", told 6", m.told(6), 0);
        c.due(what + ", STEPS", m.told(4), steps);
    }

    private static void numbered() {
        c.says("SITES, numbered from 0, 10 at most");
        HandleModels m = new HandleModels();
        int h = m.plain(0, INT, 0);
        for (int s = 0; s < 10; s++) {
            c.due("there is no SITE " + s, m.linked(s), Checks.UNKNOWN);
            c.due("SITE " + s, m.site(h, h), s);
            c.due("how many", m.told(2), s + 1);
        }
        c.due("an 11th", m.site(h, h), Checks.FULL);
        c.due("still 10", m.told(2), 10);
        runGives("the last one", m, 9, true, 0, 2);
        c.due("is LINKED alone", m.linked(8), Checks.NONE);
    }

    private static void starterTypes() {
        c.says("STATE: the STARTER takes something, or gives no INT");
        HandleModels m = new HandleModels();
        int h = m.plain(0, INT, 0);
        for (int type = LONG; type <= VOID; type++) {
            c.due("gives TYPE " + type, m.site(h, m.plain(12, type, 0)), Checks.STATE);
        }
        for (int type = INT; type <= ROW; type++) {
            c.due("takes TYPE " + type, m.site(h, c.shape(m, type, INT)), Checks.STATE);
        }
        c.due("takes six", m.site(h, c.shape(m, INT, INT, INT, INT, INT, INT, INT)), Checks.STATE);
        c.due("none is made", m.told(2), 0);
        c.due("takes nothing, gives an INT", m.site(h, m.plain(12, INT, 0)), 0);
    }

    private static void typesOfHandle() {
        c.says("have the TYPES of a HANDLE");
        for (int type = INT; type <= VOID; type++) {
            HandleModels m = new HandleModels();
            m.row(0);
            int h = m.plain(0, type, 0);
            int s = m.site(h, m.plain(0, INT, h));
            c.due("gives TYPE " + type, m.runSite(s, true), 1);
            c.due("its kind", m.resultKind(), new int[] {0, 1, 0, 2, 3}[type]);
        }
        HandleModels m = new HandleModels();
        int six = c.shape(m, INT, LONG, BOX, ROW, INT, LONG, VOID);
        int s = m.site(six, m.plain(0, INT, six));
        c.values(m, 0, 1, 1, 2, 3, 0, 3, 0, 0, 5, 1, 6);
        runFails("six VALUES", m, s, true, 100, 8);
        c.due("LINKED", m.linked(s), six);
    }

    private static void valuesAheadOfStarter() {
        c.says("At its first RUN the STARTER is done, behind the VALUES (WRONG, ADAPTED: ahead of it");
        HandleModels m = new HandleModels();
        int same = m.plain(1, LONG, 0);
        int count = m.plain(13, 0, 0);
        int nought = m.other(5, count, m.other(1, m.plain(0, INT, same), 0, 0, 0, INT), 0, 0, 0);
        int s = m.site(same, nought);
        runFails("WRONG: none", m, s, true, 7, 0);
        runFails("WRONG: none, adapting", m, s, false, 7, 0);
        c.values(m, 0, 5);
        runFails("WRONG: an INT", m, s, true, 7, 0);
        c.values(m, 3, 0);
        runFails("NULL as it adapts", m, s, false, 3, 0);
        c.due("the STARTER is not done", m.told(5), 0);
        c.due("it is not LINKED", m.linked(s), Checks.NONE);
        c.values(m, 0, 5);
        runGives("an INT adapts", m, s, false, 5, 5);
        c.due("to a LONG", m.resultKind(), 1);
        c.due("the STARTER is done", m.told(5), 1);
    }

    /** A STARTER that would show whether VALUES come to it, and that uses VALUES of its own. */
    private static void starterTakesNothing() {
        c.says("a STARTER, that takes nothing, gives an INT");
        HandleModels m = new HandleModels();
        int same = m.plain(1, ROW, 0);
        int none = m.other(11, m.plain(10, 0, 0), 0, 0, 0, 0);
        c.values(m, 3, 0);
        c.gives("a RUN of NOTHING, deeper", m, m.other(2, m.other(2, same, 0, 0, 0, 0), 0, 0, 0, 0), true, 3, 0);
        int s = m.site(same, none);
        runGives("NOTHING is at hand, but not for the STARTER", m, s, true, 0, 3);
        c.due("NOTHING comes behind it", m.resultKind(), 3);
        c.due("LINKED to how long no INTS are", m.linked(s), same);
        m.row(4);
        c.values(m, 2, 1);
        int other = m.site(same, none);
        runGives("a ROW is at hand", m, other, true, 1, 3);
        c.due("and is given", m.resultKind(), 2);
    }

    private static void linkedToNumber() {
        c.says("the HANDLE of that number is LINKED, if there is one and its TYPES are the SITE's");
        HandleModels m = new HandleModels();
        int plus = m.plain(2, 0, 0);
        int less = m.plain(3, 0, 0);
        int first = m.plain(0, INT, plus);
        int second = m.plain(0, INT, less);
        c.ints(m, 9, 4);
        runGives("the first HANDLE", m, m.site(less, first), true, 13, 2);
        runGives("another one than the SITE's", m, m.site(plus, second), true, 5, 2);
        c.due("LINKED to 0", m.linked(0), 0);
        c.due("LINKED to 1", m.linked(1), 1);
        m.clear();
        for (int k = m.told(0); k < 59; k++) {
            m.plain(13, 0, 0);
        }
        int last = m.plain(0, INT, 59);
        runGives("the STARTER gives itself, the last HANDLE", m, m.site(first, last), true, 59, 2);
        c.due("LINKED to 59", m.linked(2), 59);
    }

    private static void notLinked() {
        c.says("else LINK");
        HandleModels m = new HandleModels();
        int h = c.shape(m, INT, LONG, VOID);
        int[] others = {c.shape(m, INT, LONG, INT), c.shape(m, INT, VOID), c.shape(m, INT, INT, VOID),
            c.shape(m, LONG, INT, VOID), c.shape(m, INT, LONG, INT, VOID), m.plain(12, VOID, 0)};
        c.values(m, 0, 1, 1, 2);
        for (int other : others) {
            doesNotLink(m, h, other);
        }
        HandleModels o = new HandleModels();
        int none = o.plain(12, VOID, 0);
        for (int number : new int[] {-1, 30, 59, 60, 61, MAX, MIN}) {
            doesNotLink(o, none, number);
        }
    }

    /** A SITE of h whose STARTER gives a number. */
    private static void doesNotLink(HandleModels m, int h, int number) {
        int s = m.site(h, m.plain(0, INT, number));
        runFails("number " + number, m, s, true, 8, 1);
        c.due("is not LINKED to " + number, m.linked(s), Checks.NONE);
        runFails("number " + number + " again", m, s, true, 8, 1);
    }

    private static void linkedLater() {
        c.says("the next RUN does it again then");
        HandleModels m = new HandleModels();
        int starter = m.plain(0, INT, 2);
        int s = m.site(starter, starter);
        runFails("there is no HANDLE 1 and 2", m, s, true, 8, 1);
        c.due("HANDLE 1", m.plain(0, LONG, 6), 1);
        runFails("there is no HANDLE 2", m, s, true, 8, 1);
        c.due("HANDLE 2", m.plain(0, INT, 6), 2);
        runGives("there is now", m, s, true, 6, 2);
        c.due("LINKED", m.linked(s), 2);
    }

    private static void starterFails() {
        c.says("what the STARTER FAILS by goes on; the next RUN does it again then");
        HandleModels m = new HandleModels();
        int nought = m.plain(0, INT, 0);
        int count = m.plain(13, 0, 0);
        m.row(3);
        c.values(m, 2, 0);
        int item = m.other(0, m.plain(8, 0, 0), 0, 0, 0, 0);
        m.clear();
        int starter = m.other(3, item, count, 0, 0, 0);
        int s = m.site(nought, starter);
        runGives("item 1 is 0: HANDLE 0", m, s, true, 0, 5);
        int second = m.site(nought, starter);
        runGives("item 2", m, second, true, 0, 5);
        int third = m.site(nought, starter);
        runFails("there is no item 3", m, third, true, 4, 4);
        runFails("nor an item 4", m, third, true, 4, 4);
        c.due("not LINKED", m.linked(third), Checks.NONE);
        c.due("done each time", m.told(5), 4);
        int own = m.site(nought, m.plain(12, INT, 99));
        runFails("its own", m, own, true, 199, 1);
        c.due("not LINKED either", m.linked(own), Checks.NONE);
    }

    private static void starterIsDoneOnce() {
        c.says("sites that are linked once by a starter");
        HandleModels m = new HandleModels();
        int count = m.plain(13, 0, 0);
        int nine = m.plain(0, INT, 9);
        int s = m.site(count, count);
        runGives("COUNTS to 1: HANDLE 1", m, s, true, 9, 2);
        for (int k = 0; k < 3; k++) {
            runGives("the STARTER is not done again", m, s, k % 2 == 0, 9, 1);
        }
        c.due("COUNTED once", m.told(5), 1);
        int other = m.site(count, count);
        c.due("another SITE of the same", m.runSite(other, true), -18);
        c.due("has its own first RUN", m.told(5), 2);
        c.due("LINKED", m.linked(s), nine);
    }

    private static void stepsCount() {
        c.says("STEPS count");
        HandleModels m = new HandleModels();
        int plus = m.plain(2, 0, 0);
        int nought = m.plain(0, INT, 0);
        int h = m.other(9, m.plain(0, INT, 37), plus, nought, 0, 0);
        int more = m.other(9, m.plain(0, INT, 38), plus, nought, 0, 0);
        int half = m.other(9, m.plain(0, INT, 35), plus, nought, 0, 0);
        int starter = m.other(5, half, m.other(1, m.plain(0, INT, h), 0, 0, 0, INT), 0, 0, 0);
        int tooMany = m.other(5, half, m.other(1, m.plain(0, INT, more), 0, 0, 0, INT), 0, 0, 0);
        c.due("the STARTER's run", m.run(starter, true), 1);
        c.due("has 41 STEPS", m.told(4), 41);
        int just = m.other(9, m.plain(0, INT, 36), plus, nought, 0, 0);
        c.gives("39 STEPS", m, just, 36 * 35 / 2);
        int fits = m.site(h, m.other(5, half, m.other(1, m.plain(0, INT, just), 0, 0, 0, INT), 0, 0, 0));
        runGives("41 and 39 are 80", m, fits, true, 36 * 35 / 2, 80);
        int over = m.site(h, starter);
        runFails("41 and 40 are 81", m, over, true, 9, 81);
        c.due("it is LINKED all the same", m.linked(over), h);
        runGives("and has 40 STEPS of its own", m, over, true, 37 * 36 / 2, 40);
        int farOver = m.site(h, tooMany);
        runFails("41 and 41", m, farOver, true, 9, 81);
        runGives("then 41", m, farOver, true, 38 * 37 / 2, 41);
    }

    private static void starterSpent() {
        c.says("what the STARTER FAILS by goes on");
        HandleModels m = new HandleModels();
        int nought = m.plain(0, INT, 0);
        int starter = m.other(9, m.plain(0, INT, 78), m.plain(2, 0, 0), nought, 0, 0);
        int s = m.site(nought, starter);
        runFails("SPENT", m, s, true, 9, 81);
        c.due("not LINKED", m.linked(s), Checks.NONE);
        int last = m.site(nought, m.other(9, m.plain(0, INT, 77), m.plain(2, 0, 0), m.plain(0, INT, -2926), 0, 0));
        runFails("80 STEPS of the STARTER leave none", m, last, true, 9, 81);
        c.due("but it gave 0, and is LINKED", m.linked(last), nought);
        runGives("done alone", m, last, true, 0, 1);
    }

    private static void linkedThoughItFails() {
        c.says("What a RUN did by the time that it FAILED stays.");
        HandleModels m = new HandleModels();
        int fail = m.plain(12, VOID, 8);
        int s = m.site(fail, m.plain(0, INT, fail));
        runFails("the HANDLE FAILS", m, s, true, 108, 2);
        c.due("it is LINKED", m.linked(s), fail);
        runFails("no STARTER any more", m, s, true, 108, 1);
    }

    private static void turned() {
        c.says("A SITE that is LINKED may be turned to another HANDLE of its TYPES.");
        HandleModels m = new HandleModels();
        int plus = m.plain(2, 0, 0);
        int less = m.plain(3, 0, 0);
        int number = m.plain(0, INT, plus);
        int s = m.site(plus, number);
        int unlinked = m.site(plus, number);
        c.ints(m, 9, 4);
        runGives("plus", m, s, true, 13, 2);
        c.due("turned", m.turn(s, less), 1);
        c.due("LINKED to less", m.linked(s), less);
        runGives("less", m, s, true, 5, 1);
        c.due("to the same", m.turn(s, less), 1);
        c.due("back", m.turn(s, plus), 1);
        runGives("plus again", m, s, true, 13, 1);
        int later = m.plain(4, 0, 0);
        c.due("to a later one", m.turn(s, later), 1);
        runGives("times", m, s, true, 36, 1);
        c.due("another SITE is as it was", m.linked(unlinked), Checks.NONE);
    }

    private static void turnRefused() {
        c.says("UNKNOWN; STATE: it is not LINKED, other TYPES.");
        HandleModels m = new HandleModels();
        int h = c.shape(m, INT, LONG, INT);
        int[] others = {c.shape(m, INT, LONG, VOID), c.shape(m, INT, INT), c.shape(m, LONG, INT, INT),
            c.shape(m, INT, LONG, INT, INT), m.plain(0, INT, 0)};
        int s = m.site(h, m.plain(0, INT, h));
        c.due("not LINKED, of its TYPES", m.turn(s, h), Checks.STATE);
        runFails("WRONG does not link", m, s, true, 7, 0);
        c.due("not LINKED still", m.turn(s, h), Checks.STATE);
        c.values(m, 0, 1, 1, 1);
        runFails("its first RUN", m, s, true, 100, 4);
        for (int other : others) {
            c.due("other TYPES", m.turn(s, other), Checks.STATE);
            c.due("LINKED as before", m.linked(s), h);
        }
        for (int number : new int[] {-1, m.told(0), 59, 60, MAX, MIN}) {
            c.due("HANDLE " + number, m.turn(s, number), Checks.UNKNOWN);
        }
        int unlinked = m.site(h, m.plain(0, INT, 99));
        c.due("UNKNOWN is ahead of STATE", m.turn(unlinked, 60), Checks.UNKNOWN);
    }

    private static void unknownNumbers() {
        c.says("UNKNOWN (there is no such HANDLE, ROW, SITE)");
        HandleModels m = new HandleModels();
        int h = m.plain(0, INT, 0);
        m.site(h, h);
        for (int s : new int[] {-1, 1, 9, 10, MAX, MIN}) {
            c.due("linked " + s, m.linked(s), Checks.UNKNOWN);
            c.due("runSite " + s, m.runSite(s, true), Checks.UNKNOWN);
            c.due("runSite, adapting " + s, m.runSite(s, false), Checks.UNKNOWN);
            c.due("turn " + s, m.turn(s, h), Checks.UNKNOWN);
        }
        for (int none : new int[] {-1, 1, 59, 60, MAX, MIN}) {
            c.due("site of " + none, m.site(none, h), Checks.UNKNOWN);
            c.due("site by " + none, m.site(h, none), Checks.UNKNOWN);
        }
        c.due("one SITE", m.told(2), 1);
    }
}
