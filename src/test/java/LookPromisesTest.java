/** Promises 9 to 15 with ordinary inputs: count, kept, cell, read, recent, bound, drop. */
public final class LookPromisesTest {
    private static final Check CHECK = new Check();

    public static void main(String[] args) {
        promise9Count();
        promise10Kept();
        promise11Cell();
        promise12Read();
        promise13Recent();
        promise14Bound();
        promise15Drop();
        CHECK.end();
    }

    private static void promise9Count() {
        Memo m = Helper.with("*0gk", "+Ak+DkEk", "+CkBk", "hk", "ik");
        m.level(2, 2);
        m.demand(1, 1);
        CHECK.same("four were run", Helper.counts(m), "0 4 0 0 0 4");
        m.input(0, 1, 1);
        m.demand(1, 1);
        CHECK.same("A was run, E skipped, B and D verified", Helper.counts(m), "1 5 2 1 0 4");
        m.demand(2, 1);
        CHECK.same("a circle of one", Helper.counts(m), "1 5 2 1 1 5");
        m.drop(2, 1);
        m.bound(1);
        CHECK.same("the kept ones go, the rest stays", Helper.counts(m), "1 5 2 1 1 1");
    }

    private static void promise10Kept() {
        Memo m = Helper.with("B+k1", "k");
        m.demand(0, 7);
        CHECK.same("a demanded cell", m.kept(0, 7), true);
        CHECK.same("a cell that was read", m.kept(1, 8), true);
        CHECK.same("another cell", m.kept(1, 7), false);
        CHECK.same("to look runs nothing", Helper.counts(m), "0 2 0 0 0 2");
    }

    private static void promise11Cell() {
        Memo m = Helper.with("+hk?gkBk0", "hk", "Ck");
        m.level(0, 2);
        m.level(1, 1);
        m.input(1, 7, -6);
        m.input(0, 7, 1);
        m.demand(0, 7);
        m.input(1, 0, 1);
        m.demand(0, 7);
        int[] due = {-12, 3, 2, 1, 0, 3};
        for (int what = 0; what < due.length; what++) {
            CHECK.same("cell(0, 7, " + what + ")", m.cell(0, 7, what), due[what]);
        }
        m.circle(2, 5);
        m.demand(2, 9);
        int[] ofCircle = {5, 4, 4, 0, 1, 0};
        for (int what = 0; what < ofCircle.length; what++) {
            CHECK.same("cell(2, 9, " + what + ")", m.cell(2, 9, what), ofCircle[what]);
        }
        CHECK.same("to look changes nothing: not looked at since", m.cell(0, 7, 1), 3);
    }

    private static void promise12Read() {
        Memo m = Helper.with("+ik+F0+gk*hkgk", "0", "0", "0", "0", "1");
        m.demand(0, 9);
        int[] due = {41, 180, 9, 25};
        for (int i = 0; i < due.length; i++) {
            CHECK.same("read(0, 9, " + i + ")", m.read(0, 9, i), due[i]);
        }
    }

    private static void promise13Recent() {
        Memo m = Helper.with("+Bk+CkBk", "gk", "hk");
        m.demand(0, 0);
        int[] due = {16, 32, 0};
        for (int i = 0; i < due.length; i++) {
            CHECK.same("recent(" + i + ")", m.recent(i), due[i]);
        }
        m.input(1, 0, 5);
        m.demand(2, 0);
        CHECK.same("a run cell", Helper.recent(m), "16 0 32");
        m.demand(0, 0);
        CHECK.same("verified, run; a good one that is read stays", Helper.recent(m), "32 16 0");
        m.drop(1, 0);
        CHECK.same("a dropped cell is left out", Helper.recent(m), "32 0");
    }

    private static void promise14Bound() {
        Memo m = new Memo();
        for (int key = 0; key < 10; key++) {
            m.demand(0, key);
        }
        m.demand(0, 2);
        CHECK.same("three fewer", m.bound(7), 3);
        CHECK.same("the first ones went", Helper.recent(m), "4 5 6 7 8 9 2");
        m.demand(0, 12);
        CHECK.same("it holds for demands", Helper.recent(m), "5 6 7 8 9 2 12");
        CHECK.same("more may be kept", m.bound(20), 0);
        m.demand(0, 13);
        CHECK.same("more are kept", Helper.recent(m), "5 6 7 8 9 2 12 13");
    }

    private static void promise15Drop() {
        Memo m = Helper.with("Bk", "gk");
        m.demand(0, 9);
        CHECK.same("a cell that is not kept", m.drop(0, 8), false);
        CHECK.same("a kept cell", m.drop(1, 9), true);
        CHECK.same("the other stays", Helper.state(m), "counts 0 2 0 0 0 1; recent 9; 0(9) 0 0 0 0 0: 125");
        m.demand(1, 9);
        CHECK.same("it is run anew", Helper.counts(m), "0 3 0 0 0 2");
        CHECK.same("and comes to its end", Helper.recent(m), "9 25");
    }
}
