/** Promise 15: resultKind. */
public final class Promise15ResultKindTest {
    public static void main(String[] args) {
        Checks c = new Checks();
        HandleModels m = new HandleModels();
        c.due("at first", m.resultKind(), 3);
        m.row(1);
        int fail = m.plain(12, 0, 0);
        int[] dueOfType = {0, 1, 0, 2, 3};
        for (int type = 0; type <= 4; type++) {
            int h = m.plain(0, type, 0);
            m.item(0, 0);
            m.run(h, true);
            c.due("TYPE " + type, m.resultKind(), dueOfType[type]);
            m.item(0, 0);
            c.due("an item", m.resultKind(), 0);
            m.run(fail, true);
            c.due("FAILED", m.resultKind(), 3);
            m.run(h, true);
            c.due("TYPE " + type + " again", m.resultKind(), dueOfType[type]);
            m.run(99, true);
            c.due("a refusal leaves it", m.resultKind(), dueOfType[type]);
        }
        m.item(0, 0);
        m.value(0, 0, 1);
        m.run(fail, true);
        c.due("WRONG", m.resultKind(), 3);
        int box = m.plain(1, 2, 0);
        m.value(0, 1, 4);
        m.run(box, true);
        c.due("a LONG, boxed", m.resultKind(), 1);
        m.value(0, 3, 0);
        m.run(box, true);
        c.due("NOTHING, boxed", m.resultKind(), 3);
        c.end();
    }
}
