/**
 * Handles of acts as terms: plain ones, others put together of them, runs of them, and sites that are linked once.
 * The words in capitals are those of the document.
 */
public final class HandleModels {
    public static final int NONE = -1, UNKNOWN = -2, OUTSIDE = -3, STATE = -4, FULL = -5;

    private static final int MOST_HANDLES = 60, MOST_ROWS = 60, MOST_SITES = 10;
    private static final int MOST_VALUES = 6, LONGEST_ROW = 20, MOST_STEPS = 80;

    // TYPES
    private static final int INT = 0, LONG = 1, BOX = 2, ROW = 3, VOID = 4;

    // kinds of VALUES
    private static final int AN_INT = 0, A_LONG = 1, A_ROW = 2, NOTHING = 3;

    // what a STEP FAILS by
    private static final int FINE = 0, ARITHMETIC = 1, CAST = 2, NULL = 3, INDEX = 4, SIZE = 5, ILLEGAL = 6;
    private static final int WRONG = 7, LINK = 8, SPENT = 9, ROOM = 10, OWN = 100, MOST_OWN = 99;
    private static final int TOLD_AS_OTHER = 99;

    // forms of PLAIN HANDLES
    private static final int GIVE = 0, SAME = 1, PLUS = 2, LESS = 3, TIMES = 4, BY = 5, BELOW = 6, PLUS_LONG = 7;
    private static final int ITEM = 8, PUT = 9, LENGTH = 10, NEW_ROW = 11, FAIL = 12, COUNT = 13;

    // forms of OTHERS
    private static final int BOUND = 0, LEFT = 1, MOVED = 2, FOLDED = 3, SIFTED = 4, THEN = 5, CHOSEN = 6;
    private static final int CAUGHT = 7, ENDED = 8, ROUND = 9, SPREAD = 10, GATHERED = 11, ADAPTED = 12;

    private static final int[] NO_TYPES = {};

    private final Handle[] handles = new Handle[MOST_HANDLES];
    private int handleCount = 0;
    private final Site[] sites = new Site[MOST_SITES];
    private int siteCount = 0;
    private final Rows rows = new Rows();
    private final Values given = new Values();
    private final Runner runner = new Runner(rows);
    private int latestKind = NOTHING;
    private long latestNumber = 0;
    private int latestFailure = FINE;

    public HandleModels() {
    }

    public int plain(int form, int a, int b) {
        if (form == GIVE && a == ROW && !rows.has(b)) {
            return UNKNOWN;
        }
        if (!Shapes.plainFits(form, a, b)) {
            return OUTSIDE;
        }
        if (handleCount >= MOST_HANDLES) {
            return FULL;
        }
        return keepHandle(new Handle(form, Shapes.ofPlain(form, a), b));
    }

    public int other(int form, int h, int x, int y, int a, int b) {
        Handle first = handleAt(h);
        Handle second = Shapes.looksAtX(form) ? handleAt(x) : first;
        Handle third = Shapes.looksAtY(form) ? handleAt(y) : first;
        if (first == null || second == null || third == null) {
            return UNKNOWN;
        }
        Parts parts = new Parts(form, first, second, third, a, b);
        if (!Shapes.otherFits(parts)) {
            return OUTSIDE;
        }
        Types types = Shapes.ofOther(parts);
        if (types == null || (form == BOUND && !canBind(first.types.at(a)))) {
            return STATE;
        }
        if (handleCount >= MOST_HANDLES) {
            return FULL;
        }
        Other made = new Other(parts, types);
        if (form == BOUND) {
            bind(made, first.types.at(a));
        }
        return keepHandle(made);
    }

    public int row(int n) {
        if (n < 0 || n > LONGEST_ROW) {
            return OUTSIDE;
        }
        int made = rows.make(n);
        return made == NONE ? FULL : made;
    }

    public int set(int row, int k, int v) {
        if (!rows.hasItem(row, k)) {
            return UNKNOWN;
        }
        rows.put(row, k, v);
        return 1;
    }

    public int item(int row, int k) {
        if (!rows.hasItem(row, k)) {
            return UNKNOWN;
        }
        keepResult(AN_INT, rows.itemAt(row, k));
        return 1;
    }

    public int value(int k, int kind, long v) {
        if (kind == A_ROW && !rows.has(v)) {
            return UNKNOWN;
        }
        if (k < 0 || k > given.count() || k >= MOST_VALUES || kind < AN_INT || kind > NOTHING) {
            return OUTSIDE;
        }
        if (kind == AN_INT && v != (int) v) {
            return OUTSIDE;
        }
        given.cutTo(k);
        given.add(kind, kind == NOTHING ? 0 : v);
        return given.count();
    }

    public int clear() {
        int before = given.count();
        given.cutTo(0);
        return before;
    }

    public int run(int h, boolean exact) {
        Handle handle = handleAt(h);
        if (handle == null) {
            return UNKNOWN;
        }
        int failure = runner.begin(given, handle.types, exact);
        if (failure == FINE) {
            failure = runner.perform(handle, 0);
        }
        return endRun(failure);
    }

    public int site(int h, int starter) {
        Handle handle = handleAt(h);
        Handle starting = handleAt(starter);
        if (handle == null || starting == null) {
            return UNKNOWN;
        }
        if (starting.types.count() != 0 || starting.types.gives != INT) {
            return STATE;
        }
        if (siteCount >= MOST_SITES) {
            return FULL;
        }
        sites[siteCount] = new Site(handle.types, starting);
        siteCount++;
        return siteCount - 1;
    }

    public int runSite(int s, boolean exact) {
        Site site = siteAt(s);
        if (site == null) {
            return UNKNOWN;
        }
        int failure = runner.begin(given, site.types, exact);
        if (failure == FINE && site.target == NONE) {
            failure = link(site);
        }
        Handle handle = handleAt(site.target);
        if (failure == FINE && handle != null) {
            failure = runner.perform(handle, 0);
        }
        return endRun(failure);
    }

    public int turn(int s, int h) {
        Site site = siteAt(s);
        Handle handle = handleAt(h);
        if (site == null || handle == null) {
            return UNKNOWN;
        }
        if (site.target == NONE || !handle.types.alike(site.types)) {
            return STATE;
        }
        site.target = h;
        return 1;
    }

    public int linked(int s) {
        Site site = siteAt(s);
        return site == null ? UNKNOWN : site.target;
    }

    public int about(int h, int what) {
        Handle handle = handleAt(h);
        if (handle == null) {
            return UNKNOWN;
        }
        Types types = handle.types;
        if (what == 0) {
            return types.count();
        }
        if (what == 7) {
            return types.gives;
        }
        return what >= 1 && what <= types.count() ? types.at(what - 1) : OUTSIDE;
    }

    public int resultKind() {
        return latestKind;
    }

    public long result() {
        return latestNumber;
    }

    public int told(int what) {
        switch (what) {
            case 0: return handleCount;
            case 1: return rows.count();
            case 2: return siteCount;
            case 3: return given.count();
            case 4: return runner.steps;
            case 5: return runner.counted;
            case 6: return latestFailure;
            default: return OUTSIDE;
        }
    }

    private Handle handleAt(int number) {
        return number >= 0 && number < handleCount ? handles[number] : null;
    }

    private Site siteAt(int number) {
        return number >= 0 && number < siteCount ? sites[number] : null;
    }

    private int keepHandle(Handle handle) {
        handles[handleCount] = handle;
        handleCount++;
        return handleCount - 1;
    }

    private void keepResult(int kind, long number) {
        latestKind = kind;
        latestNumber = number;
    }

    private boolean canBind(int type) {
        if (given.count() == 0) {
            return false;
        }
        int kind = given.kindAt(0);
        int from = Adapting.typeOf(kind, type);
        return Adapting.isAllowed(from, type) && Adapting.failure(kind, from, type) == FINE;
    }

    private void bind(Other made, int type) {
        int kind = given.kindAt(0);
        int from = Adapting.typeOf(kind, type);
        made.hold(Adapting.kindAfter(kind, from, type), Adapting.numberAfter(given.numberAt(0), type));
    }

    private int link(Site site) {
        int failure = runner.performStarter(site.starter);
        if (failure != FINE) {
            return failure;
        }
        int number = (int) runner.gotNumber;
        Handle handle = handleAt(number);
        if (handle == null || !handle.types.alike(site.types)) {
            return LINK;
        }
        site.target = number;
        return FINE;
    }

    private int endRun(int failure) {
        latestFailure = failure;
        if (failure != FINE) {
            keepResult(NOTHING, 0);
            return -10 - failure;
        }
        keepResult(runner.gotKind, runner.gotNumber);
        return 1;
    }

    /** What a HANDLE or a SITE takes, in order, and gives. Its array is shared, so it is never changed. */
    private static final class Types {
        final int[] takes;
        final int gives;

        Types(int[] takes, int gives) {
            this.takes = takes;
            this.gives = gives;
        }

        int count() {
            return takes.length;
        }

        int at(int k) {
            return k >= 0 && k < takes.length ? takes[k] : NONE;
        }

        /** Whether all that few takes stands here, from a place on. */
        boolean hasFrom(int place, Types few) {
            if (place + few.count() > count()) {
                return false;
            }
            for (int k = 0; k < few.count(); k++) {
                if (at(place + k) != few.at(k)) {
                    return false;
                }
            }
            return true;
        }

        boolean alike(Types others) {
            return gives == others.gives && count() == others.count() && hasFrom(0, others);
        }

        /** These with so many cut away at a place and others put there; null where that is more than a HANDLE takes. */
        Types spliced(int place, int cut, int[] put) {
            int length = count() - cut + put.length;
            if (place < 0 || cut < 0 || place + cut > count() || length > MOST_VALUES) {
                return null;
            }
            int[] made = new int[length];
            System.arraycopy(takes, 0, made, 0, place);
            System.arraycopy(put, 0, made, place, put.length);
            System.arraycopy(takes, place + cut, made, place + put.length, count() - place - cut);
            return new Types(made, gives);
        }
    }

    /** VALUES in order: those at hand, and those of each STEP that is open. */
    private static final class Values {
        private final int[] kinds = new int[MOST_VALUES];
        private final long[] numbers = new long[MOST_VALUES];
        private int size = 0;

        int count() {
            return size;
        }

        int kindAt(int k) {
            return k >= 0 && k < size ? kinds[k] : NOTHING;
        }

        long numberAt(int k) {
            return k >= 0 && k < size ? numbers[k] : 0;
        }

        int intAt(int k) {
            return (int) numberAt(k);
        }

        void cutTo(int count) {
            if (count >= 0 && count < size) {
                size = count;
            }
        }

        void add(int kind, long number) {
            if (size < MOST_VALUES) {
                kinds[size] = kind;
                numbers[size] = number;
                size++;
            }
        }

        void addSome(Values others, int from, int to) {
            for (int k = from; k < to; k++) {
                add(others.kindAt(k), others.numberAt(k));
            }
        }
    }

    /** All ROWS, side by side in one array, so that a run makes no objects. */
    private static final class Rows {
        private final int[] items = new int[MOST_ROWS * LONGEST_ROW];
        private final int[] lengths = new int[MOST_ROWS];
        private int size = 0;

        int count() {
            return size;
        }

        boolean has(long row) {
            return row >= 0 && row < size;
        }

        boolean hasItem(int row, int k) {
            return has(row) && k >= 0 && k < lengths[row];
        }

        int lengthOf(int row) {
            return has(row) ? lengths[row] : 0;
        }

        int itemAt(int row, int k) {
            return hasItem(row, k) ? items[row * LONGEST_ROW + k] : 0;
        }

        void put(int row, int k, int v) {
            if (hasItem(row, k)) {
                items[row * LONGEST_ROW + k] = v;
            }
        }

        /** A ROW of 0s: its number; NONE where there is no room. */
        int make(int length) {
            if (size >= MOST_ROWS || length < 0 || length > LONGEST_ROW) {
                return NONE;
            }
            lengths[size] = length;
            size++;
            return size - 1;
        }
    }

    /** A PLAIN HANDLE, and what all HANDLES have. */
    private static class Handle {
        final int form;
        final Types types;
        final int b;

        Handle(int form, Types types, int b) {
            this.form = form;
            this.types = types;
            this.b = b;
        }
    }

    private static final class Other extends Handle {
        final Parts parts;
        int heldKind = NOTHING;
        long heldNumber = 0;

        Other(Parts parts, Types types) {
            super(parts.form, types, parts.b);
            this.parts = parts;
        }

        void hold(int kind, long number) {
            heldKind = kind;
            heldNumber = number;
        }
    }

    /** What another HANDLE is made of. Where x or y is not looked at, h stands there, so that none is null. */
    private static final class Parts {
        final int form;
        final Handle h;
        final Handle x;
        final Handle y;
        final int a;
        final int b;

        Parts(int form, Handle h, Handle x, Handle y, int a, int b) {
            this.form = form;
            this.h = h;
            this.x = x;
            this.y = y;
            this.a = a;
            this.b = b;
        }
    }

    private static final class Site {
        final Types types;
        final Handle starter;
        int target = NONE;

        Site(Types types, Handle starter) {
            this.types = types;
            this.starter = starter;
        }
    }

    /** TO ADAPT: whether TYPES allow it, whether a VALUE does, and what becomes of the VALUE. */
    private static final class Adapting {
        static boolean isAllowed(int from, int to) {
            if (from == to || to == VOID || from == VOID) {
                return true;
            }
            switch (from) {
                case INT: return to == LONG || to == BOX;
                case LONG: return to == BOX;
                case BOX: return to == INT || to == LONG;
                default: return false;
            }
        }

        static int failure(int kind, int from, int to) {
            if (from != BOX || (to != INT && to != LONG)) {
                return FINE;
            }
            if (kind == NOTHING) {
                return NULL;
            }
            return to == INT && kind != AN_INT ? CAST : FINE;
        }

        static int kindAfter(int kind, int from, int to) {
            if (to == VOID) {
                return NOTHING;
            }
            if (to == LONG) {
                return A_LONG;
            }
            return from == VOID && to == INT ? AN_INT : kind;
        }

        /** NOTHING has the number 0 always, so what comes from VOID is 0 without a test. */
        static long numberAfter(long number, int to) {
            return to == VOID ? 0 : number;
        }

        /** The TYPE as which a VALUE at hand comes to a place of the wanted TYPE. */
        static int typeOf(int kind, int wanted) {
            switch (kind) {
                case AN_INT: return INT;
                case A_LONG: return LONG;
                case A_ROW: return ROW;
                default: return wanted == ROW ? ROW : BOX;
            }
        }

        static boolean isExactly(int kind, int type) {
            switch (type) {
                case INT: return kind == AN_INT;
                case LONG: return kind == A_LONG;
                case BOX: return kind != A_ROW;
                case ROW: return kind == A_ROW || kind == NOTHING;
                default: return false;
            }
        }
    }

    /** Which numbers a form allows, and the TYPES of what it makes. */
    private static final class Shapes {
        static boolean plainFits(int form, int a, int b) {
            switch (form) {
                case GIVE: return isWithin(a, INT, VOID);
                case SAME: return isWithin(a, INT, ROW);
                case FAIL: return isWithin(a, INT, VOID) && isWithin(b, 0, MOST_OWN);
                default: return isWithin(form, GIVE, COUNT);
            }
        }

        static Types ofPlain(int form, int a) {
            switch (form) {
                case GIVE:
                case FAIL: return new Types(NO_TYPES, a);
                case SAME: return new Types(new int[] {a}, a);
                case PLUS_LONG: return new Types(new int[] {LONG, LONG}, LONG);
                case ITEM: return new Types(new int[] {ROW, INT}, INT);
                case PUT: return new Types(new int[] {ROW, INT, INT}, VOID);
                case LENGTH: return new Types(new int[] {ROW}, INT);
                case NEW_ROW: return new Types(new int[] {INT}, ROW);
                case COUNT: return new Types(NO_TYPES, INT);
                default: return new Types(new int[] {INT, INT}, INT);
            }
        }

        static boolean looksAtX(int form) {
            return isWithin(form, FOLDED, ROUND) || form == ADAPTED;
        }

        static boolean looksAtY(int form) {
            return form == CHOSEN || form == ROUND;
        }

        static boolean otherFits(Parts parts) {
            int taken = parts.h.types.count();
            int a = parts.a;
            switch (parts.form) {
                case BOUND:
                case SIFTED: return isWithin(a, 0, taken - 1);
                case LEFT: return isWithin(a, 0, taken) && isWithin(parts.b, INT, ROW);
                case MOVED: return isOrder(a, taken);
                case CAUGHT: return isWithin(a, 0, ILLEGAL) || isWithin(a, OWN, OWN + MOST_OWN);
                case SPREAD: return isWithin(a, 1, MOST_VALUES);
                case GATHERED: return isWithin(a, 0, MOST_VALUES - 1);
                default: return isWithin(parts.form, BOUND, ADAPTED);
            }
        }

        /** The TYPES of another HANDLE; null where those of its parts are not as told. */
        static Types ofOther(Parts parts) {
            Types h = parts.h.types;
            Types x = parts.x.types;
            Types y = parts.y.types;
            switch (parts.form) {
                case BOUND: return h.spliced(parts.a, 1, NO_TYPES);
                case LEFT: return h.spliced(parts.a, 0, new int[] {parts.b});
                case MOVED: return moved(h, parts.a);
                case FOLDED: return folded(h, x);
                case SIFTED: return x.count() == 1 && x.gives == h.at(parts.a) ? h.spliced(parts.a, 1, x.takes) : null;
                case THEN: return then(h, x);
                case CHOSEN: return h.gives == INT && x.alike(y) && x.hasFrom(0, h) ? x : null;
                case CAUGHT: return x.gives == h.gives && takesNumberAnd(x, h) ? h : null;
                case ENDED: return x.gives == VOID && takesNumberAnd(x, h) ? h : null;
                case ROUND: return round(h, x, y);
                case SPREAD: return spread(h, parts.a);
                case GATHERED: return gathered(h, parts.a);
                case ADAPTED: return canAdaptAll(h, x) ? x : null;
                default: return null;
            }
        }

        private static Types moved(Types h, int order) {
            int[] made = new int[h.count()];
            for (int k = 0; k < made.length; k++) {
                int place = placeAt(order, made.length, k);
                if (place >= 0 && place < made.length) {
                    made[place] = h.at(k);
                }
            }
            return new Types(made, h.gives);
        }

        private static Types folded(Types h, Types x) {
            if (x.gives == VOID) {
                return h.hasFrom(0, x) ? h : null;
            }
            return h.at(0) == x.gives && h.hasFrom(1, x) ? h.spliced(0, 1, NO_TYPES) : null;
        }

        private static Types then(Types h, Types x) {
            boolean fits = h.gives == VOID ? x.count() == 0 : x.count() == 1 && x.at(0) == h.gives;
            return fits ? new Types(h.takes, x.gives) : null;
        }

        private static Types round(Types h, Types x, Types y) {
            boolean counts = h.count() == 0 && h.gives == INT;
            boolean begins = y.count() == 0 && y.gives == x.gives;
            boolean goesOn = x.count() == 2 && x.at(0) == x.gives && x.at(1) == INT;
            return counts && begins && goesOn ? y : null;
        }

        private static Types spread(Types h, int many) {
            int first = h.count() - many;
            if (first < 0) {
                return null;
            }
            for (int k = first; k < h.count(); k++) {
                if (h.at(k) != INT) {
                    return null;
                }
            }
            return h.spliced(first, many, new int[] {ROW});
        }

        private static Types gathered(Types h, int many) {
            int last = h.count() - 1;
            if (many < 0 || h.at(last) != ROW) {
                return null;
            }
            int[] ints = new int[many];
            for (int k = 0; k < many; k++) {
                ints[k] = INT;
            }
            return h.spliced(last, 1, ints);
        }

        private static boolean canAdaptAll(Types h, Types x) {
            if (h.count() != x.count() || !Adapting.isAllowed(h.gives, x.gives)) {
                return false;
            }
            for (int k = 0; k < h.count(); k++) {
                if (!Adapting.isAllowed(x.at(k), h.at(k))) {
                    return false;
                }
            }
            return true;
        }

        private static boolean takesNumberAnd(Types x, Types h) {
            return x.count() == h.count() + 1 && x.at(0) == INT && x.hasFrom(1, h);
        }

        private static boolean isWithin(int number, int least, int most) {
            return number >= least && number <= most;
        }

        /** Whether a number has each of the first places once among its digits, and no others. */
        private static boolean isOrder(int order, int places) {
            int seen = 0;
            int rest = order;
            for (int k = 0; k < places; k++) {
                int digit = rest % 10;
                if (digit < 0 || digit >= places || (seen >> digit & 1) == 1) {
                    return false;
                }
                seen |= 1 << digit;
                rest /= 10;
            }
            return rest == 0;
        }

        /** The k-th of so many digits, the first one highest. */
        static int placeAt(int order, int places, int k) {
            int rest = order;
            for (int behind = places - 1; behind > k; behind--) {
                rest /= 10;
            }
            return rest % 10;
        }
    }

    /**
     * Does HANDLES. Each depth has its own VALUES, made once; what a STEP gives is in gotKind and gotNumber.
     * A HANDLE is made of earlier ones alone, so no STEP stands deeper than there are HANDLES.
     */
    private static final class Runner {
        private final Rows rows;
        private final Values[] frames = new Values[MOST_HANDLES + 2];
        int steps = 0;
        int counted = 0;
        int gotKind = NOTHING;
        long gotNumber = 0;

        Runner(Rows rows) {
            this.rows = rows;
            for (int depth = 0; depth < frames.length; depth++) {
                frames[depth] = new Values();
            }
        }

        /** Begins a RUN: the VALUES at hand come to depth 0 as the TYPES want them; what that FAILS by. */
        int begin(Values given, Types types, boolean exact) {
            steps = 0;
            if (!fits(given, types, exact)) {
                return WRONG;
            }
            Values first = frames[0];
            first.cutTo(0);
            int failure = FINE;
            for (int k = 0; k < types.count() && failure == FINE; k++) {
                int from = exact ? types.at(k) : Adapting.typeOf(given.kindAt(k), types.at(k));
                failure = addAdapted(first, given, k, from, types.at(k));
            }
            return failure;
        }

        /** All TYPES are looked at before any VALUE is adapted, as WRONG comes ahead of all that is done. */
        private boolean fits(Values given, Types types, boolean exact) {
            if (given.count() != types.count()) {
                return false;
            }
            for (int k = 0; k < types.count(); k++) {
                int kind = given.kindAt(k);
                int wanted = types.at(k);
                boolean fit = exact
                    ? Adapting.isExactly(kind, wanted)
                    : Adapting.isAllowed(Adapting.typeOf(kind, wanted), wanted);
                if (!fit) {
                    return false;
                }
            }
            return true;
        }

        private int addAdapted(Values to, Values source, int k, int fromType, int toType) {
            int kind = source.kindAt(k);
            int failure = Adapting.failure(kind, fromType, toType);
            if (failure == FINE) {
                to.add(Adapting.kindAfter(kind, fromType, toType), Adapting.numberAfter(source.numberAt(k), toType));
            }
            return failure;
        }

        /** At depth 1, so that the VALUES of the RUN stay at depth 0. */
        int performStarter(Handle starter) {
            opened(0);
            return perform(starter, 1);
        }

        /** A STEP, with the VALUES at its depth: what it FAILED by. */
        int perform(Handle handle, int depth) {
            steps++;
            if (steps > MOST_STEPS || depth > MOST_HANDLES) {
                return SPENT;
            }
            if (handle instanceof Other another) {
                return performOther(another, depth);
            }
            return performPlain(handle, frames[depth]);
        }

        private int performPlain(Handle handle, Values mine) {
            switch (handle.form) {
                case GIVE: return giveFixed(handle.types.gives, handle.b);
                case SAME: return give(mine.kindAt(0), mine.numberAt(0));
                case PLUS: return give(AN_INT, mine.intAt(0) + mine.intAt(1));
                case LESS: return give(AN_INT, mine.intAt(0) - mine.intAt(1));
                case TIMES: return give(AN_INT, mine.intAt(0) * mine.intAt(1));
                case BY: return divide(mine.intAt(0), mine.intAt(1));
                case BELOW: return give(AN_INT, mine.intAt(0) < mine.intAt(1) ? 1 : 0);
                case PLUS_LONG: return give(A_LONG, mine.numberAt(0) + mine.numberAt(1));
                case ITEM:
                case PUT: return reachItem(mine, handle.form == PUT);
                case LENGTH: return mine.kindAt(0) == NOTHING ? NULL : give(AN_INT, rows.lengthOf(mine.intAt(0)));
                case NEW_ROW: return makeRow(mine.intAt(0));
                case FAIL: return OWN + handle.b;
                default: return countOnce();
            }
        }

        private int give(int kind, long number) {
            gotKind = kind;
            gotNumber = number;
            return FINE;
        }

        private int giveFixed(int type, int number) {
            switch (type) {
                case LONG: return give(A_LONG, number);
                case ROW: return give(A_ROW, number);
                case VOID: return give(NOTHING, 0);
                default: return give(AN_INT, number);
            }
        }

        private int divide(int number, int divisor) {
            return divisor == 0 ? ARITHMETIC : give(AN_INT, number / divisor);
        }

        private int reachItem(Values mine, boolean put) {
            if (mine.kindAt(0) == NOTHING) {
                return NULL;
            }
            int row = mine.intAt(0);
            int k = mine.intAt(1);
            if (!rows.hasItem(row, k)) {
                return INDEX;
            }
            if (!put) {
                return give(AN_INT, rows.itemAt(row, k));
            }
            rows.put(row, k, mine.intAt(2));
            return give(NOTHING, 0);
        }

        private int makeRow(int length) {
            if (length < 0) {
                return SIZE;
            }
            if (length > LONGEST_ROW) {
                return ILLEGAL;
            }
            int made = rows.make(length);
            return made == NONE ? ROOM : give(A_ROW, made);
        }

        private int countOnce() {
            counted++;
            return give(AN_INT, counted);
        }

        private int performOther(Other handle, int depth) {
            Parts parts = handle.parts;
            switch (handle.form) {
                case BOUND: return performBound(handle, depth);
                case LEFT: return performLeft(parts, depth);
                case MOVED: return performMoved(parts, depth);
                case FOLDED: return performFolded(parts, depth);
                case SIFTED: return performSifted(parts, depth);
                case THEN: return performThen(parts, depth);
                case CHOSEN: return performChosen(parts, depth);
                case CAUGHT: return performCaught(parts, depth);
                case ENDED: return performEnded(parts, depth);
                case ROUND: return performRound(parts, depth);
                case SPREAD: return performSpread(parts, depth);
                case GATHERED: return performGathered(parts, depth);
                default: return performAdapted(handle, depth);
            }
        }

        /** The VALUES of the next depth, emptied for a STEP there; no STEP changes those of its own depth. */
        private Values opened(int depth) {
            Values next = frames[depth + 1];
            next.cutTo(0);
            return next;
        }

        private void passFirst(int count, int depth) {
            opened(depth).addSome(frames[depth], 0, count);
        }

        /** A number ahead of all VALUES, as the second parts of CAUGHT and ENDED take them. */
        private void passBehind(int number, int depth) {
            Values mine = frames[depth];
            Values next = opened(depth);
            next.add(AN_INT, number);
            next.addSome(mine, 0, mine.count());
        }

        private int performBound(Other handle, int depth) {
            int place = handle.parts.a;
            Values mine = frames[depth];
            Values next = opened(depth);
            next.addSome(mine, 0, place);
            next.add(handle.heldKind, handle.heldNumber);
            next.addSome(mine, place, mine.count());
            return perform(handle.parts.h, depth + 1);
        }

        private int performLeft(Parts parts, int depth) {
            Values mine = frames[depth];
            Values next = opened(depth);
            next.addSome(mine, 0, parts.a);
            next.addSome(mine, parts.a + 1, mine.count());
            return perform(parts.h, depth + 1);
        }

        private int performMoved(Parts parts, int depth) {
            Values mine = frames[depth];
            Values next = opened(depth);
            for (int k = 0; k < mine.count(); k++) {
                int place = Shapes.placeAt(parts.a, mine.count(), k);
                next.add(mine.kindAt(place), mine.numberAt(place));
            }
            return perform(parts.h, depth + 1);
        }

        private int performFolded(Parts parts, int depth) {
            passFirst(parts.x.types.count(), depth);
            int failure = perform(parts.x, depth + 1);
            if (failure != FINE) {
                return failure;
            }
            Values mine = frames[depth];
            Values next = opened(depth);
            if (parts.x.types.gives != VOID) {
                next.add(gotKind, gotNumber);
            }
            next.addSome(mine, 0, mine.count());
            return perform(parts.h, depth + 1);
        }

        private int performSifted(Parts parts, int depth) {
            Values mine = frames[depth];
            Values next = opened(depth);
            next.addSome(mine, parts.a, parts.a + 1);
            int failure = perform(parts.x, depth + 1);
            if (failure != FINE) {
                return failure;
            }
            next.cutTo(0);
            next.addSome(mine, 0, parts.a);
            next.add(gotKind, gotNumber);
            next.addSome(mine, parts.a + 1, mine.count());
            return perform(parts.h, depth + 1);
        }

        private int performThen(Parts parts, int depth) {
            passFirst(frames[depth].count(), depth);
            int failure = perform(parts.h, depth + 1);
            if (failure != FINE) {
                return failure;
            }
            Values next = opened(depth);
            if (parts.h.types.gives != VOID) {
                next.add(gotKind, gotNumber);
            }
            return perform(parts.x, depth + 1);
        }

        private int performChosen(Parts parts, int depth) {
            passFirst(parts.h.types.count(), depth);
            int failure = perform(parts.h, depth + 1);
            if (failure != FINE) {
                return failure;
            }
            passFirst(frames[depth].count(), depth);
            return perform(gotNumber != 0 ? parts.x : parts.y, depth + 1);
        }

        private int performCaught(Parts parts, int depth) {
            passFirst(frames[depth].count(), depth);
            int failure = perform(parts.h, depth + 1);
            if (!isCaught(failure, parts.a)) {
                return failure;
            }
            passBehind(failure, depth);
            return perform(parts.x, depth + 1);
        }

        private static boolean isCaught(int failure, int by) {
            boolean mayBe = (failure >= ARITHMETIC && failure <= ILLEGAL) || failure >= OWN;
            return mayBe && (by == 0 || by == failure);
        }

        private int performEnded(Parts parts, int depth) {
            passFirst(frames[depth].count(), depth);
            int failure = perform(parts.h, depth + 1);
            int kind = gotKind;
            long number = gotNumber;
            passBehind(failure >= WRONG && failure <= ROOM ? TOLD_AS_OTHER : failure, depth);
            int last = perform(parts.x, depth + 1);
            if (last != FINE) {
                return last;
            }
            give(kind, number);
            return failure;
        }

        private int performRound(Parts parts, int depth) {
            opened(depth);
            int failure = perform(parts.h, depth + 1);
            // Each round is a STEP, so however high the number is, a RUN is SPENT before it comes to this bound.
            int rounds = Math.min((int) gotNumber, MOST_STEPS + 1);
            if (failure == FINE) {
                failure = perform(parts.y, depth + 1);
            }
            for (int k = 0; k < rounds && failure == FINE; k++) {
                Values next = opened(depth);
                next.add(gotKind, gotNumber);
                next.add(AN_INT, k);
                failure = perform(parts.x, depth + 1);
            }
            return failure;
        }

        private int performSpread(Parts parts, int depth) {
            Values mine = frames[depth];
            int last = mine.count() - 1;
            if (mine.kindAt(last) == NOTHING) {
                return NULL;
            }
            int row = mine.intAt(last);
            if (rows.lengthOf(row) != parts.a) {
                return ILLEGAL;
            }
            Values next = opened(depth);
            next.addSome(mine, 0, last);
            for (int k = 0; k < parts.a; k++) {
                next.add(AN_INT, rows.itemAt(row, k));
            }
            return perform(parts.h, depth + 1);
        }

        private int performGathered(Parts parts, int depth) {
            Values mine = frames[depth];
            int first = mine.count() - parts.a;
            int row = rows.make(parts.a);
            if (row == NONE) {
                return ROOM;
            }
            for (int k = 0; k < parts.a; k++) {
                rows.put(row, k, mine.intAt(first + k));
            }
            Values next = opened(depth);
            next.addSome(mine, 0, first);
            next.add(A_ROW, row);
            return perform(parts.h, depth + 1);
        }

        private int performAdapted(Other handle, int depth) {
            Types outer = handle.types;
            Types inner = handle.parts.h.types;
            Values mine = frames[depth];
            Values next = opened(depth);
            int failure = FINE;
            for (int k = 0; k < mine.count() && failure == FINE; k++) {
                failure = addAdapted(next, mine, k, outer.at(k), inner.at(k));
            }
            if (failure == FINE) {
                failure = perform(handle.parts.h, depth + 1);
            }
            return failure == FINE ? adaptGot(inner.gives, outer.gives) : failure;
        }

        private int adaptGot(int from, int to) {
            int failure = Adapting.failure(gotKind, from, to);
            if (failure != FINE) {
                return failure;
            }
            return give(Adapting.kindAfter(gotKind, from, to), Adapting.numberAfter(gotNumber, to));
        }
    }
}
