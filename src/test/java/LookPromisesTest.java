import java.util.NoSuchElementException;

/** Promises 9 to 15: count, kept, cell, read, recent, bound, drop. */
public final class LookPromisesTest {
    private static final Check CHECK = new Check();
    private static final int[] NO_FUNCTION = {-1, 6, Integer.MIN_VALUE, Integer.MAX_VALUE};
    private static final int[] NO_KEY = {-1, 16, Integer.MIN_VALUE, Integer.MAX_VALUE};

    public static void main(String[] args) {
        promise9Count();
        promise10Kept();
        promise11Cell();
        promise11CellWrongArguments();
        promise12Read();
        promise13Recent();
        promise14Bound();
        promise15Drop();
        CHECK.end();
    }

    private static void promise9Count() {
        MemoRuntime m = Helper.with("*0gk", "+Ak+DkEk", "+CkBk", "hk", "ik");
        m.level(2, 2);
        m.demand(1, 1);
        CHECK.same("four were run", Helper.counts(m), "0 4 0 0 0 4");
        m.input(0, 1, 1);
        m.demand(1, 1);
        CHECK.same("A was run, E skipped, B and D verified", Helper.counts(m), "1 5 2 1 0 4");
        m.demand(2, 1);
        CHECK.same("a circle of one; what was run before it counts once", Helper.counts(m), "1 5 2 1 1 5");
        for (int what : new int[] {-1, 6, 7, Integer.MIN_VALUE, Integer.MAX_VALUE}) {
            CHECK.same("count(" + what + ")", m.count(what), MemoRuntime.NONE);
        }
        m.drop(2, 1);
        m.bound(1);
        CHECK.same("the kept ones go, the rest stays", Helper.counts(m), "1 5 2 1 1 1");
    }

    private static void promise10Kept() {
        MemoRuntime m = Helper.with("B+k1", "k");
        m.demand(0, 14);
        CHECK.same("a demanded cell", m.kept(0, 14), true);
        CHECK.same("a cell that was read", m.kept(1, 15), true);
        CHECK.same("another cell", m.kept(1, 14), false);
        CHECK.same("another cell", m.kept(5, 15), false);
        CHECK.same("to look runs nothing", Helper.counts(m), "0 2 0 0 0 2");
        for (int f : NO_FUNCTION) {
            CHECK.refuses("kept(" + f + ", 0)", m, () -> m.kept(f, 0));
        }
        for (int key : NO_KEY) {
            CHECK.refuses("kept(0, " + key + ")", m, () -> m.kept(0, key));
        }
    }

    private static void promise11Cell() {
        MemoRuntime m = Helper.with("+hk?gkBk0", "hk", "Ck");
        m.level(0, 2);
        m.level(1, 1);
        m.input(1, 7, -6);
        m.input(0, 7, 1);
        m.demand(0, 7);
        m.input(1, 0, 1);
        m.demand(0, 7);
        int[] due = {-12, 3, 2, 1, 0, 3};
        for (int what = 0; what < due.length; what++) {
            CHECK.same("cell(0, 7, " + what + ")", m.cell(0, 7, what), due[what]);
        }
        m.circle(2, 5);
        m.demand(2, 15);
        int[] ofCircle = {5, 4, 4, 0, 1, 0};
        for (int what = 0; what < ofCircle.length; what++) {
            CHECK.same("cell(2, 15, " + what + ")", m.cell(2, 15, what), ofCircle[what]);
        }
        CHECK.same("to look changes nothing: not looked at since", m.cell(0, 7, 1), 3);
    }

    private static void promise11CellWrongArguments() {
        MemoRuntime m = Helper.with("gk");
        m.demand(0, 0);
        for (int f : NO_FUNCTION) {
            CHECK.refuses("cell(" + f + ", 0, 0)", m, () -> m.cell(f, 0, 0));
        }
        for (int key : NO_KEY) {
            CHECK.refuses("cell(0, " + key + ", 0)", m, () -> m.cell(0, key, 0));
        }
        for (int what : new int[] {-1, 6, Integer.MIN_VALUE, Integer.MAX_VALUE}) {
            CHECK.refuses("cell(0, 0, " + what + ")", m, () -> m.cell(0, 0, what));
            CHECK.refuses("cell(0, 1, " + what + ") of no kept cell", m, () -> m.cell(0, 1, what));
        }
        for (int what = 0; what <= 5; what++) {
            int asked = what;
            CHECK.fails("cell(0, 1, " + what + ")", NoSuchElementException.class, () -> m.cell(0, 1, asked));
        }
        m.drop(0, 0);
        CHECK.fails("cell of a dropped cell", NoSuchElementException.class, () -> m.cell(0, 0, 0));
    }

    private static void promise12Read() {
        MemoRuntime m = Helper.with("+ik+F0+gk*hkgk", "0", "0", "0", "0", "1");
        m.demand(0, 15);
        int[] due = {47, 180, 15, 31, MemoRuntime.NONE, MemoRuntime.NONE};
        for (int i = 0; i < due.length; i++) {
            CHECK.same("read(0, 15, " + i + ")", m.read(0, 15, i), due[i]);
        }
        for (int i : new int[] {-1, 23, 24, 25, Integer.MIN_VALUE, Integer.MAX_VALUE}) {
            CHECK.same("read(0, 15, " + i + ")", m.read(0, 15, i), MemoRuntime.NONE);
        }
        CHECK.same("of a cell without reads", m.read(5, 0, 0), MemoRuntime.NONE);
        for (int i : new int[] {-1, 0, 30}) {
            CHECK.fails("read of no kept cell", NoSuchElementException.class, () -> m.read(0, 14, i));
        }
        for (int f : NO_FUNCTION) {
            CHECK.refuses("read(" + f + ", 0, 0)", m, () -> m.read(f, 0, 0));
        }
        for (int key : NO_KEY) {
            CHECK.refuses("read(0, " + key + ", 0)", m, () -> m.read(0, key, 0));
        }
    }

    private static void promise13Recent() {
        MemoRuntime m = Helper.with("+Bk+CkBk", "gk", "hk");
        m.demand(0, 0);
        int[] due = {16, 32, 0, MemoRuntime.NONE};
        for (int i = 0; i < due.length; i++) {
            CHECK.same("recent(" + i + ")", m.recent(i), due[i]);
        }
        m.input(1, 0, 5);
        m.demand(2, 0);
        CHECK.same("a run cell", Helper.recent(m), "16 0 32");
        m.demand(0, 0);
        CHECK.same("verified, run; a good one that is read stays", Helper.recent(m), "32 16 0");
        m.drop(1, 0);
        CHECK.same("a dropped cell is left out", Helper.recent(m), "32 0");
        for (int i : new int[] {-1, 2, 96, Integer.MIN_VALUE, Integer.MAX_VALUE}) {
            CHECK.same("recent(" + i + ")", m.recent(i), MemoRuntime.NONE);
        }
    }

    private static void promise14Bound() {
        MemoRuntime m = new MemoRuntime();
        for (int key = 0; key < 10; key++) {
            m.demand(0, key);
        }
        m.demand(0, 2);
        CHECK.same("as many as are kept", m.bound(10), 0);
        CHECK.same("three fewer", m.bound(7), 3);
        CHECK.same("the first ones went", Helper.recent(m), "4 5 6 7 8 9 2");
        m.demand(0, 12);
        CHECK.same("it holds for demands", Helper.recent(m), "5 6 7 8 9 2 12");
        CHECK.same("more may be kept", m.bound(96), 0);
        m.demand(0, 13);
        CHECK.same("more are kept", Helper.recent(m), "5 6 7 8 9 2 12 13");
        for (int n : new int[] {0, -1, 97, Integer.MIN_VALUE, Integer.MAX_VALUE}) {
            CHECK.refuses("bound(" + n + ")", m, () -> m.bound(n));
        }
        m.demand(0, 14);
        CHECK.same("a refused bound changes nothing", m.count(5), 9);
        CHECK.same("all but one", m.bound(1), 8);
        CHECK.same("the last one stays", Helper.recent(m), "14");
    }

    private static void promise15Drop() {
        MemoRuntime m = Helper.with("Bk", "gk");
        m.demand(0, 15);
        CHECK.same("a cell that is not kept", m.drop(0, 14), false);
        CHECK.same("a kept cell", m.drop(1, 15), true);
        CHECK.same("once only", m.drop(1, 15), false);
        CHECK.same("the other stays", Helper.state(m), "counts 0 2 0 0 0 1; recent 15; 0(15) 0 0 0 0 0: 131");
        m.demand(1, 15);
        CHECK.same("it is run anew", Helper.counts(m), "0 3 0 0 0 2");
        CHECK.same("and comes to its end", Helper.recent(m), "15 31");
        for (int f : NO_FUNCTION) {
            CHECK.refuses("drop(" + f + ", 0)", m, () -> m.drop(f, 0));
        }
        for (int key : NO_KEY) {
            CHECK.refuses("drop(0, " + key + ")", m, () -> m.drop(0, key));
        }
    }
}
