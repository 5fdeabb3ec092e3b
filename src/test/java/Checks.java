/** What the tests share: answers that are due, VALUES at hand in one call, and runs with what they give. */
final class Checks {
    static final int INT = 0, LONG = 1, BOX = 2, ROW = 3, VOID = 4;
    static final int UNKNOWN = HandleModels.UNKNOWN, OUTSIDE = HandleModels.OUTSIDE;
    static final int STATE = HandleModels.STATE, FULL = HandleModels.FULL, NONE = HandleModels.NONE;
    private static final int NOTHING = 3;

    private int wrong = 0;
    private int looked = 0;
    private String sentence = "";

    /** The sentence of the document that the next answers are due by. */
    void says(String text) {
        sentence = "\"" + text + "\": ";
    }

    void due(String what, long got, long want) {
        looked++;
        if (got != want) {
            wrong++;
            System.out.println(sentence + what + " answered " + got + ", due is " + want);
        }
    }

    /** A HANDLE with TYPES, put together of LEFT ones: it takes these, gives the last one, and FAILS by 100. */
    int shape(HandleModels m, int... types) {
        int h = m.plain(12, types[types.length - 1], 0);
        for (int k = 0; k < types.length - 1; k++) {
            h = m.other(1, h, 0, 0, k, types[k]);
        }
        due("a shape is made", h >= 0 ? 1 : h, 1);
        return h;
    }

    /** The RESULT of an item. */
    void item(String what, HandleModels m, int row, int k, int number) {
        due(what + ", item", m.item(row, k), 1);
        due(what + ", its kind", m.resultKind(), INT);
        due(what + ", its number", m.result(), number);
    }

    /** INTS at hand, as many as are named, and no others. */
    void ints(HandleModels m, long... numbers) {
        m.clear();
        for (int k = 0; k < numbers.length; k++) {
            due("value " + k, m.value(k, INT, numbers[k]), k + 1);
        }
    }

    /** VALUES at hand, each as its kind and its number in turn. */
    void values(HandleModels m, long... kindsAndNumbers) {
        m.clear();
        for (int k = 0; 2 * k < kindsAndNumbers.length; k++) {
            due("value " + k, m.value(k, (int) kindsAndNumbers[2 * k], kindsAndNumbers[2 * k + 1]), k + 1);
        }
    }

    void gives(String what, HandleModels m, int h, boolean exact, int kind, long number) {
        due(what + ", its run", m.run(h, exact), 1);
        due(what + ", kind", m.resultKind(), kind);
        due(what + ", result", m.result(), number);
        due(what + ", told 6", m.told(6), 0);
    }

    void gives(String what, HandleModels m, int h, long number) {
        gives(what, m, h, true, INT, number);
    }

    void givesNothing(String what, HandleModels m, int h) {
        gives(what, m, h, true, NOTHING, 0);
    }

    void fails(String what, HandleModels m, int h, boolean exact, int by) {
        due(what + ", its run", m.run(h, exact), -10 - by);
        due(what + ", kind", m.resultKind(), NOTHING);
        due(what + ", result", m.result(), 0);
        due(what + ", told 6", m.told(6), by);
    }

    void fails(String what, HandleModels m, int h, int by) {
        fails(what, m, h, true, by);
    }

    /** The TYPES of a HANDLE: what it takes in order, and last what it gives. */
    void types(String what, HandleModels m, int h, int... types) {
        int takes = types.length - 1;
        due(what + ", takes", m.about(h, 0), takes);
        for (int k = 1; k <= 6; k++) {
            due(what + ", type " + k, m.about(h, k), k <= takes ? types[k - 1] : OUTSIDE);
        }
        due(what + ", gives", m.about(h, 7), types[takes]);
    }

    void end() {
        System.out.println(wrong == 0 ? looked + " answers are as due" : wrong + " of " + looked + " answers are not as due");
        if (wrong != 0) {
            System.exit(1);
        }
    }
}
