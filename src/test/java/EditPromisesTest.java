/** Promises 5 to 7 with ordinary inputs: input, circle, level. */
public final class EditPromisesTest {
    private static final Check CHECK = new Check();

    public static void main(String[] args) {
        promise5Input();
        promise6Circle();
        promise7Level();
        CHECK.end();
    }

    private static void promise5Input() {
        Memo m = Helper.with("gk", "hk", "ik");
        CHECK.same("another value", m.input(0, 0, 7), true);
        CHECK.same("revision after an edit", m.count(0), 1);
        CHECK.same("the same again", m.input(0, 0, 7), false);
        CHECK.same("revision without an edit", m.count(0), 1);
        CHECK.same("an input of table 2", m.input(2, 11, -3), true);
        CHECK.same("an input of table 1", m.input(1, 11, 4), true);
        CHECK.same("revision after three edits", m.count(0), 3);
        CHECK.same("input 0 of table 0", m.demand(0, 0), 7);
        CHECK.same("input 11 of table 0", m.demand(0, 11), 0);
        CHECK.same("input 11 of table 1", m.demand(1, 11), 4);
        CHECK.same("input 11 of table 2", m.demand(2, 11), -3);
        m.input(0, 0, 8);
        CHECK.same("a later value", m.demand(0, 0), 8);
        CHECK.same("its cell", Helper.cell(m, 0, 0), "8 4 4 0 0: 0");
    }

    private static void promise6Circle() {
        Memo m = Helper.with("Bk", "Ak", "0", "0", "0", "Fk");
        CHECK.same("another value", m.circle(5, -8), true);
        CHECK.same("revision after an edit", m.count(0), 1);
        CHECK.same("the same again", m.circle(5, -8), false);
        CHECK.same("revision without an edit", m.count(0), 1);
        CHECK.same("its circle value", m.demand(5, 2), -8);
        CHECK.same("a cell of a circle", Helper.cell(m, 5, 2), "-8 1 1 0 1:");
        m.circle(0, 6);
        CHECK.same("the circle value of 0", m.demand(0, 1), 6);
        CHECK.same("the circle value of 1", m.cell(1, 1, 0), 0);
    }

    private static void promise7Level() {
        Memo m = Helper.with("gk", "hk", "ik", "+gk+hkik", "+hkik");
        m.input(0, 1, 1);
        m.demand(3, 1);
        m.level(1, 1);
        CHECK.same("no cell is kept", Helper.state(m), "counts 1 1 0 0 0 0; recent");
        m.level(2, 2);
        m.demand(3, 1);
        m.demand(4, 1);
        m.demand(2, 1);
        CHECK.same("the least of 0, 1, 2", m.cell(3, 1, 3), 0);
        CHECK.same("the least of 1, 2", m.cell(4, 1, 3), 1);
        CHECK.same("2 alone", m.cell(2, 1, 3), 2);
        m.level(2, 0);
        m.demand(4, 1);
        CHECK.same("the least of 1, 0", m.cell(4, 1, 3), 0);
        CHECK.same("no level is an edit", m.count(0), 1);
        CHECK.same("inputs stay", m.demand(0, 1), 1);
    }
}
