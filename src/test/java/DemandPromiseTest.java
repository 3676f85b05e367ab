/** Promise 8 with ordinary inputs: what demands run, verify and skip, circles, giving up. */
public final class DemandPromiseTest {
    private static final Check CHECK = new Check();

    public static void main(String[] args) {
        eachCellIsRunOnce();
        readsStandOnceInTheirOrder();
        sameValueStopsTheSpread();
        changedReadsRunTheCell();
        skippedByClass();
        verifiedCellsTakeTheirClassAnew();
        circleInTheMiddle();
        circleAfterAnEdit();
        givenUpLeavesWhatWasDone();
        tooManyCellsGo();
        CHECK.end();
    }

    private static void eachCellIsRunOnce() {
        Memo m = Helper.with("*BkBk", "+gkgk");
        m.input(0, 2, 3);
        CHECK.same("demand", m.demand(0, 2), 36);
        CHECK.same("each was run once", Helper.counts(m), "1 2 0 0 0 2");
        CHECK.same("demand again", m.demand(0, 2), 36);
        CHECK.same("nothing was run", Helper.counts(m), "1 2 0 0 0 2");
    }

    private static void readsStandOnceInTheirOrder() {
        Memo m = Helper.with("+h1+gBk-h1Bg3", "k");
        m.input(0, 3, 5);
        m.demand(0, 2);
        CHECK.same("reads", Helper.cell(m, 0, 2), "-5 1 1 0 0: 17 118 2 3 121");
    }

    private static void sameValueStopsTheSpread() {
        Memo m = Helper.with("+1Bk", "*0gk");
        CHECK.same("demand", m.demand(0, 4), 1);
        m.input(0, 4, 9);
        CHECK.same("demand after the edit", m.demand(0, 4), 1);
        CHECK.same("B was run, A verified", Helper.counts(m), "1 3 1 0 0 2");
        CHECK.same("B did not change", Helper.cell(m, 1, 4), "0 1 0 0 0: 4");
        CHECK.same("A is good", Helper.cell(m, 0, 4), "1 1 0 0 0: 120");
        CHECK.same("the recent order", Helper.recent(m), "20 4");
    }

    private static void changedReadsRunTheCell() {
        Memo m = Helper.with("+g0+BkCk", "g1", "g2");
        m.demand(0, 0);
        m.input(0, 0, 1);
        m.input(0, 1, 1);
        CHECK.same("demand", m.demand(0, 0), 2);
        CHECK.same("A and B run, C verified", Helper.state(m), "counts 2 5 1 0 0 3; recent 16 32 0"
                + "; 0(0) 2 2 2 0 0: 0 116 132; 1(0) 1 2 2 0 0: 1; 2(0) 0 2 0 0 0: 2");
    }

    private static void skippedByClass() {
        Memo m = Helper.with("gk", "hk", "ik", "7");
        m.level(1, 1);
        m.level(2, 2);
        demandFour(m);
        m.input(0, 9, 1);
        demandFour(m);
        CHECK.same("after an edit of class 0", Helper.counts(m), "1 4 1 3 0 4");
        m.input(1, 9, 1);
        demandFour(m);
        CHECK.same("after an edit of class 1", Helper.counts(m), "2 4 3 5 0 4");
        m.input(2, 9, 1);
        demandFour(m);
        CHECK.same("after an edit of class 2", Helper.counts(m), "3 4 7 5 0 4");
    }

    private static void demandFour(Memo m) {
        for (int f = 0; f < 4; f++) {
            m.demand(f, 0);
        }
    }

    private static void verifiedCellsTakeTheirClassAnew() {
        Memo m = Helper.with("*0Bk", "?h0g1h1", "Ak");
        m.level(1, 1);
        m.input(1, 0, 1);
        m.demand(2, 0);
        CHECK.same("class 0 by way of g", m.cell(0, 0, 3), 0);
        m.input(1, 0, 0);
        m.demand(2, 0);
        CHECK.same("B reads h alone", Helper.cell(m, 1, 0), "0 2 1 1 0: 16 17");
        CHECK.same("A was verified", Helper.cell(m, 0, 0), "0 2 1 1 0: 116");
        CHECK.same("C was verified", Helper.cell(m, 2, 0), "0 2 1 1 0: 100");
        m.input(0, 1, 1);
        m.demand(2, 0);
        CHECK.same("C is skipped", Helper.counts(m), "3 4 2 1 0 3");
        CHECK.same("A is not asked for", m.cell(0, 0, 1), 2);
    }

    private static void circleInTheMiddle() {
        Memo m = Helper.with("+E0Bk", "+1Ck", "+1Dk", "+1Bk", "9");
        m.circle(1, 10);
        m.circle(2, 20);
        m.circle(3, 30);
        CHECK.same("demand", m.demand(0, 5), 19);
        CHECK.same("A is run with the circle value of B", Helper.state(m),
                "counts 3 2 0 0 3 5; recent 64 21 37 53 5"
                + "; 0(5) 19 3 3 0 0: 164 121; 1(5) 10 3 3 0 1:; 2(5) 20 3 3 0 1:"
                + "; 3(5) 30 3 3 0 1:; 4(0) 9 3 3 2 0:");
    }

    private static void circleAfterAnEdit() {
        Memo m = Helper.with("Bk", "?g0Ak5", "+1Ak");
        CHECK.same("no circle", m.demand(2, 0), 6);
        m.input(0, 0, 1);
        m.circle(0, 50);
        m.circle(1, 60);
        CHECK.same("a circle of A and B", m.demand(2, 0), 51);
        CHECK.same("state", Helper.state(m), "counts 3 4 0 0 2 3; recent 0 16 32"
                + "; 0(0) 50 3 3 0 1:; 1(0) 60 3 3 0 1:; 2(0) 51 3 3 0 0: 100");
        m.input(0, 0, 0);
        CHECK.same("no circle any more", m.demand(2, 0), 6);
        CHECK.same("state", Helper.state(m), "counts 4 7 0 0 2 3; recent 16 0 32"
                + "; 0(0) 5 4 4 0 0: 116; 1(0) 5 4 4 0 0: 0; 2(0) 6 4 4 0 0: 100");
    }

    private static void givenUpLeavesWhatWasDone() {
        Memo m = Helper.with("?kA-k1B4", "?kB-k1g0", "+Dk+Ek+FkA?gkk0", "gk", "hk", "i0");
        m.level(1, 1);
        m.demand(2, 15);
        CHECK.same("before", Helper.recent(m), "63 79 95 16 17 18 19 20 0 47");
        m.input(0, 15, 1);
        CHECK.fails("given up", IllegalStateException.class, () -> m.demand(2, 15));
        CHECK.same("run, verified and skipped", Helper.counts(m), "1 11 1 1 0 10");
        CHECK.same("the recent order", Helper.recent(m), "16 17 18 19 20 0 47 63 79 95");
        CHECK.same("run", Helper.cell(m, 3, 15), "1 1 1 0 0: 15");
        CHECK.same("skipped", Helper.cell(m, 4, 15), "0 1 0 1 0: 31");
        CHECK.same("verified", Helper.cell(m, 5, 15), "0 1 0 0 0: 32");
        CHECK.same("not run to the end", Helper.cell(m, 2, 15), "0 0 0 0 0: 163 179 195 15 100");
        CHECK.fails("given up again", IllegalStateException.class, () -> m.demand(2, 15));
        CHECK.same("nothing is left under way", m.demand(0, 14), 0);
    }

    private static void tooManyCellsGo() {
        Memo m = Helper.with("?kA-k10");
        m.bound(3);
        CHECK.same("demand", m.demand(0, 9), 0);
        CHECK.same("the first ones went", Helper.recent(m), "7 8 9");
    }
}
