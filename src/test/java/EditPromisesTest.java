/** Promises 5 to 7: input, circle, level. */
public final class EditPromisesTest {
    private static final Check CHECK = new Check();

    public static void main(String[] args) {
        promise5Input();
        promise5InputEndsCircles();
        promise5InputWrongArguments();
        promise6Circle();
        promise6CircleHasClass0();
        promise6CircleWrongArguments();
        promise7Level();
        promise7LevelWrongArguments();
        CHECK.end();
    }

    private static void promise5Input() {
        MemoRuntime m = Helper.with("gk", "hk", "ik");
        CHECK.same("the value that it had", m.input(0, 0, 0), false);
        CHECK.same("revision without an edit", m.count(0), 0);
        CHECK.same("another value", m.input(0, 0, 7), true);
        CHECK.same("revision after an edit", m.count(0), 1);
        CHECK.same("the same again", m.input(0, 0, 7), false);
        CHECK.same("revision without an edit", m.count(0), 1);
        CHECK.same("the last input", m.input(2, 15, Integer.MIN_VALUE), true);
        CHECK.same("an input of table 1", m.input(1, 15, 4), true);
        CHECK.same("revision after three edits", m.count(0), 3);
        CHECK.same("input 0 of table 0", m.demand(0, 0), 7);
        CHECK.same("input 15 of table 0", m.demand(0, 15), 0);
        CHECK.same("input 15 of table 1", m.demand(1, 15), 4);
        CHECK.same("input 15 of table 2", m.demand(2, 15), Integer.MIN_VALUE);
        m.input(0, 0, 0);
        CHECK.same("back to 0", m.demand(0, 0), 0);
        CHECK.same("back to 0", Helper.cell(m, 0, 0), "0 4 4 0 0: 0");
    }

    private static void promise5InputEndsCircles() {
        MemoRuntime m = Helper.with("Bk", "Ak", "B1");
        m.demand(2, 0);
        CHECK.same("a circle", Helper.recent(m), "17 1 32");
        m.input(2, 9, 0);
        CHECK.same("no edit", Helper.recent(m), "17 1 32");
        m.input(2, 9, 1);
        CHECK.same("an edit: cells of circles go", Helper.recent(m), "32");
        CHECK.same("what had read them stays as it was", Helper.cell(m, 2, 0), "0 0 0 0 0: 117");
    }

    private static void promise5InputWrongArguments() {
        MemoRuntime m = Helper.with("Bk", "Ak");
        m.demand(0, 3);
        for (int wrong : new int[] {-1, 3, Integer.MIN_VALUE, Integer.MAX_VALUE}) {
            CHECK.refuses("input of table " + wrong, m, () -> m.input(wrong, 0, 5));
        }
        for (int wrong : new int[] {-1, 16, Integer.MIN_VALUE, Integer.MAX_VALUE}) {
            CHECK.refuses("input with key " + wrong, m, () -> m.input(0, wrong, 5));
        }
    }

    private static void promise6Circle() {
        MemoRuntime m = Helper.with("Bk", "Ak", "0", "0", "0", "Fk");
        CHECK.same("the value that it had", m.circle(5, 0), false);
        CHECK.same("revision without an edit", m.count(0), 0);
        CHECK.same("another value", m.circle(5, -8), true);
        CHECK.same("revision after an edit", m.count(0), 1);
        CHECK.same("the same again", m.circle(5, -8), false);
        CHECK.same("its circle value", m.demand(5, 2), -8);
        CHECK.same("a cell of a circle", Helper.cell(m, 5, 2), "-8 1 1 0 1:");
        m.circle(5, -8);
        CHECK.same("no edit: it is kept", m.kept(5, 2), true);
        m.circle(0, 6);
        CHECK.same("an edit: it is kept no more", m.kept(5, 2), false);
        CHECK.same("the circle value of 0", m.demand(0, 1), 6);
        CHECK.same("the circle value of 1", m.cell(1, 1, 0), 0);
    }

    private static void promise6CircleHasClass0() {
        MemoRuntime m = Helper.with("gk", "hk");
        m.level(1, 1);
        m.demand(0, 0);
        m.demand(1, 0);
        m.circle(3, 1);
        m.demand(0, 0);
        CHECK.same("class 0 is looked through", Helper.counts(m), "1 2 1 0 0 2");
        m.demand(1, 0);
        CHECK.same("class 1 is skipped", Helper.counts(m), "1 2 1 1 0 2");
    }

    private static void promise6CircleWrongArguments() {
        MemoRuntime m = Helper.with("Bk", "Ak");
        m.demand(0, 3);
        for (int wrong : new int[] {-1, 6, Integer.MIN_VALUE, Integer.MAX_VALUE}) {
            CHECK.refuses("circle of " + wrong, m, () -> m.circle(wrong, 5));
        }
    }

    private static void promise7Level() {
        MemoRuntime m = Helper.with("gk", "hk", "ik", "+gk+hkik", "+hkik");
        m.input(0, 1, 1);
        m.demand(3, 1);
        m.level(1, 1);
        CHECK.same("no cell is kept", Helper.state(m), "counts 1 1 0 0 0 0; recent ");
        m.level(2, 2);
        m.demand(3, 1);
        m.demand(4, 1);
        m.demand(2, 1);
        CHECK.same("the least of 0, 1, 2", m.cell(3, 1, 3), 0);
        CHECK.same("the least of 1, 2", m.cell(4, 1, 3), 1);
        CHECK.same("2 alone", m.cell(2, 1, 3), 2);
        m.level(2, 2);
        CHECK.same("the class that it had: no cell is kept all the same", m.count(5), 0);
        m.level(2, 0);
        m.demand(4, 1);
        CHECK.same("the least of 1, 0", m.cell(4, 1, 3), 0);
        CHECK.same("no level is an edit", m.count(0), 1);
        CHECK.same("inputs stay", m.demand(0, 1), 1);
    }

    private static void promise7LevelWrongArguments() {
        MemoRuntime m = Helper.with("gk");
        m.demand(0, 3);
        for (int wrong : new int[] {-1, 3, Integer.MIN_VALUE, Integer.MAX_VALUE}) {
            CHECK.refuses("level of table " + wrong, m, () -> m.level(wrong, 1));
            CHECK.refuses("level of class " + wrong, m, () -> m.level(0, wrong));
        }
        m.input(0, 3, 1);
        m.demand(0, 3);
        CHECK.same("the class stays", m.cell(0, 3, 3), 0);
    }
}
