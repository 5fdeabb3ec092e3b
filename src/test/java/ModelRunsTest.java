import java.util.ArrayList;
import java.util.List;
import java.util.Random;

/** Long runs of calls from fixed seeds: each answer, and all that can be told, as Model has it. */
public final class ModelRunsTest {
    private static final int RUNS = 8000;
    /** An object is good for 512 calls; one round of play takes fewer than 30. */
    private static final int CALLS = 512 - 30;
    private static final int[] ODD = {Integer.MIN_VALUE, -100, -2, -1, 7, 8, 14, 20, 21, 60, 99, 100, 199, 200, Integer.MAX_VALUE};

    private final Random random;
    private final HandleModels mine = new HandleModels();
    private final Model model = new Model();
    private final List<String> calls = new ArrayList<>();
    private int used = 0;
    private boolean wrong = false;
    private static final int[] failures = new int[200];
    private static final int[] formsDone = new int[13];

    private ModelRunsTest(long seed) {
        random = new Random(seed);
    }

    public static void main(String[] args) {
        int bad = 0;
        for (int seed = 0; seed < RUNS && bad < 3; seed++) {
            bad += new ModelRunsTest(seed).play() ? 0 : 1;
        }
        for (int by = 0; by <= 10; by++) {
            if (failures[by] == 0) {
                System.out.println("no run FAILED by " + by);
                bad++;
            }
        }
        for (int form = 0; form <= 12; form++) {
            if (formsDone[form] == 0) {
                System.out.println("no other of form " + form + " was made");
                bad++;
            }
        }
        System.out.println(bad == 0 ? RUNS + " runs are as the model has them" : bad + " runs are not");
        if (bad != 0) {
            System.exit(1);
        }
    }

    private boolean play() {
        int made = 0;
        while (used < CALLS && !wrong) {
            // Few calls make HANDLES at the end, so that those there are run with many VALUES.
            int what = random.nextInt(made < 40 ? 20 : 26);
            made++;
            one(what);
            if (made % 16 == 0) {
                sameInAll();
            }
        }
        sameInAll();
        if (wrong) {
            System.out.println(String.join("\n", calls));
        }
        return !wrong;
    }

    private void one(int what) {
        if (what < 4) {
            plain();
        } else if (what < 11) {
            other();
        } else if (what < 12) {
            rows();
        } else if (what < 14) {
            value(random.nextInt(8) - 1, small(-1, 4), number());
        } else if (what < 15) {
            site();
        } else if (what < 16) {
            asked();
        } else {
            runSome();
        }
    }

    private int small(int least, int most) {
        return random.nextInt(30) == 0 ? ODD[random.nextInt(ODD.length)] : least + random.nextInt(most - least + 1);
    }

    private long number() {
        int how = random.nextInt(20);
        return how == 0 ? random.nextLong() : how == 1 ? ODD[random.nextInt(ODD.length)] : random.nextInt(12) - 3;
    }

    private int handle() {
        int there = model.told(0);
        return there == 0 || random.nextInt(40) == 0 ? small(-1, 60) : random.nextInt(there);
    }

    private void same(String call, long got, long want) {
        used++;
        calls.add(call + " = " + want);
        if (got != want) {
            wrong = true;
            calls.add("but answered " + got);
        }
    }

    private void sameRun(String call, long got, long want) {
        same(call, got, want);
        same("told(4)", mine.told(4), model.told(4));
        same("resultKind()", mine.resultKind(), model.resultKind());
        same("result()", mine.result(), model.result());
    }

    private void sameInAll() {
        for (int what = 0; what <= 6; what++) {
            same("told(" + what + ")", mine.told(what), model.told(what));
        }
        same("resultKind()", mine.resultKind(), model.resultKind());
        same("result()", mine.result(), model.result());
    }

    private void plain() {
        int form = small(0, 13);
        int a = small(0, 4);
        int b = form == 0 ? (int) number() : small(0, 99);
        if (random.nextInt(6) == 0) {
            form = 0;
            a = 0;
            b = small(0, 90);
        }
        same("plain(" + form + ", " + a + ", " + b + ")", mine.plain(form, a, b), model.plain(form, a, b));
    }

    private void other() {
        int[] p = parts();
        // Most blind choices are refused: look for one that goes through.
        for (int tries = 0; tries < 40 && random.nextInt(12) != 0 && !model.wouldMake(p[0], p[1], p[2], p[3], p[4], p[5]); tries++) {
            p = parts();
        }
        int want = model.other(p[0], p[1], p[2], p[3], p[4], p[5]);
        if (want >= 0) {
            formsDone[p[0]]++;
        }
        same("other(" + p[0] + ", " + p[1] + ", " + p[2] + ", " + p[3] + ", " + p[4] + ", " + p[5] + ")",
            mine.other(p[0], p[1], p[2], p[3], p[4], p[5]), want);
        int h = handle();
        int what = small(0, 7);
        same("about(" + h + ", " + what + ")", mine.about(h, what), model.about(h, what));
    }

    private int[] parts() {
        int form = small(0, 12);
        int a = small(0, 6);
        if (form == 2) {
            int[] orders = {0, 1, 10, 12, 21, 102, 120, 201, 210, 123, 3210, 2031, 1234, 43210, 30214, 12345, 543210, 420135};
            a = orders[random.nextInt(orders.length)];
        }
        if (form == 7 && random.nextBoolean()) {
            a = random.nextBoolean() ? 0 : small(99, 200);
        }
        return new int[] {form, handle(), handle(), handle(), a, small(0, 3)};
    }

    private void rows() {
        int n = small(0, 6);
        if (random.nextBoolean()) {
            same("row(" + n + ")", mine.row(n), model.row(n));
            return;
        }
        int row = model.told(1) == 0 ? small(-1, 2) : random.nextInt(model.told(1));
        int k = small(0, 5);
        int v = (int) number();
        same("set(" + row + ", " + k + ", " + v + ")", mine.set(row, k, v), model.set(row, k, v));
        same("item(" + row + ", " + k + ")", mine.item(row, k), model.item(row, k));
    }

    private void value(int k, int kind, long v) {
        same("value(" + k + ", " + kind + ", " + v + ")", mine.value(k, kind, v), model.value(k, kind, v));
    }

    private void site() {
        int h = handle();
        int starter = handle();
        int s = small(0, 9);
        if (random.nextInt(3) == 0) {
            same("turn(" + s + ", " + h + ")", mine.turn(s, h), model.turn(s, h));
        } else {
            same("site(" + h + ", " + starter + ")", mine.site(h, starter), model.site(h, starter));
        }
    }

    private void asked() {
        int h = handle();
        int what = small(-1, 8);
        int s = small(-1, 10);
        same("about(" + h + ", " + what + ")", mine.about(h, what), model.about(h, what));
        same("linked(" + s + ")", mine.linked(s), model.linked(s));
        same("told(" + what + ")", mine.told(what), model.told(what));
    }

    private void runSome() {
        boolean exact = random.nextBoolean();
        boolean ofSite = model.told(2) > 0 && random.nextInt(4) == 0;
        int h = handle();
        int s = ofSite ? random.nextInt(model.told(2)) : small(-1, 1);
        if (random.nextInt(8) != 0) {
            fitting(ofSite && model.linked(s) >= 0 ? model.linked(s) : h);
        }
        int want;
        if (ofSite) {
            want = model.runSite(s, exact);
            sameRun("runSite(" + s + ", " + exact + ")", mine.runSite(s, exact), want);
        } else {
            want = model.run(h, exact);
            sameRun("run(" + h + ", " + exact + ")", mine.run(h, exact), want);
        }
        if (want == 1 || want <= -10) {
            failures[want == 1 ? 0 : -10 - want]++;
        }
    }

    /** VALUES that a HANDLE takes, most of the time. */
    private void fitting(int h) {
        same("clear()", mine.clear(), model.clear());
        for (int k = 0; k < model.about(h, 0); k++) {
            int type = model.about(h, k + 1);
            int kind = type == 3 ? 2 : type == 2 ? random.nextInt(2) : type;
            if (random.nextInt(15) == 0) {
                kind = random.nextInt(4);
            }
            if (kind == 2 && model.told(1) == 0) {
                kind = 3;
            }
            value(k, kind, kind == 2 ? random.nextInt(model.told(1)) : kind == 0 ? (int) number() : number());
        }
    }
}
