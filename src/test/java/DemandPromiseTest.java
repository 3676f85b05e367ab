/** Promise 8, with the terms that it uses: to ask for a cell, circles, giving up, the recent order. */
public final class DemandPromiseTest {
    private static final Check CHECK = new Check();

    public static void main(String[] args) {
        goodCellsAreNotAskedTwice();
        readsStandOnceInTheirOrder();
        onlyTheChosenPartIsRead();
        sameValueStopsTheSpread();
        firstChangedReadRunsTheCell();
        skippedByClass();
        verifiedCellsTakeTheirClassAnew();
        droppedReadCountsAsChanged();
        circleOfOne();
        circleInTheMiddle();
        circleWhileReadsAreGoneThrough();
        circleChangesEvenTheSameValue();
        manyCircles();
        twentyCellsUnderWay();
        givenUpLeavesWhatWasDone();
        givenUpBehindACircle();
        demandedCellComesToItsEnd();
        tooManyCellsGo();
        wrongArguments();
        CHECK.end();
    }

    private static void goodCellsAreNotAskedTwice() {
        MemoRuntime m = Helper.with("*BkBk", "+gkgk");
        m.input(0, 2, 3);
        CHECK.same("demand", m.demand(0, 2), 36);
        CHECK.same("each was run once", Helper.counts(m), "1 2 0 0 0 2");
        CHECK.same("demand again", m.demand(0, 2), 36);
        CHECK.same("nothing was run", Helper.counts(m), "1 2 0 0 0 2");
    }

    private static void readsStandOnceInTheirOrder() {
        MemoRuntime m = Helper.with("+h1+gBk-h1Bg3", "k", "g".repeat(23) + "k");
        m.input(0, 3, 5);
        m.demand(0, 2);
        CHECK.same("reads", Helper.cell(m, 0, 2), "-5 1 1 0 0: 17 118 2 3 121");
        for (int key = 0; key < Helper.KEYS; key++) {
            m.input(0, key, key + 1);
        }
        m.demand(2, 3);
        CHECK.same("sixteen reads of twenty-three", Helper.cell(m, 2, 3),
                "10 17 17 0 0: 3 4 5 6 7 8 9 10 11 12 13 14 15 0 1 2");
    }

    private static void onlyTheChosenPartIsRead() {
        MemoRuntime m = Helper.with("?gkB1C1", "h0", "i0");
        m.demand(0, 0);
        CHECK.same("the third part", Helper.cell(m, 0, 0), "0 0 0 0 0: 0 133");
        CHECK.same("the second part was not run", m.kept(1, 1), false);
        m.input(0, 0, -1);
        m.demand(0, 0);
        CHECK.same("the second part", Helper.cell(m, 0, 0), "0 1 0 0 0: 0 117");
        CHECK.same("the third part was not looked at", m.cell(2, 1, 1), 0);
    }

    private static void sameValueStopsTheSpread() {
        MemoRuntime m = Helper.with("+1Bk", "*0gk");
        CHECK.same("demand", m.demand(0, 4), 1);
        m.input(0, 4, 9);
        CHECK.same("demand after the edit", m.demand(0, 4), 1);
        CHECK.same("B was run, A verified", Helper.counts(m), "1 3 1 0 0 2");
        CHECK.same("B did not change", Helper.cell(m, 1, 4), "0 1 0 0 0: 4");
        CHECK.same("A is good", Helper.cell(m, 0, 4), "1 1 0 0 0: 120");
        CHECK.same("the recent order", Helper.recent(m), "20 4");
    }

    private static void firstChangedReadRunsTheCell() {
        MemoRuntime m = Helper.with("+g0+BkCk", "g1", "g2");
        m.demand(0, 0);
        m.input(0, 0, 1);
        m.input(0, 1, 1);
        m.demand(0, 0);
        CHECK.same("A and B run, C verified", Helper.counts(m), "2 5 1 0 0 3");
        CHECK.same("values", Helper.state(m), "counts 2 5 1 0 0 3; recent 16 32 0"
                + "; 0(0) 2 2 2 0 0: 0 116 132; 1(0) 1 2 2 0 0: 1; 2(0) 0 2 0 0 0: 2");
        Helper.define(m, 0, "?g0B0C0");
        m.demand(0, 0);
        m.input(0, 0, 0);
        m.demand(0, 0);
        CHECK.same("B was not asked for: the input before it had changed", m.cell(1, 0, 1), 2);
    }

    private static void skippedByClass() {
        MemoRuntime m = Helper.with("gk", "hk", "ik", "7");
        m.level(1, 1);
        m.level(2, 2);
        for (int f = 0; f < 4; f++) {
            m.demand(f, 0);
        }
        m.input(0, 9, 1);
        for (int f = 0; f < 4; f++) {
            m.demand(f, 0);
        }
        CHECK.same("after an edit of class 0", Helper.counts(m), "1 4 1 3 0 4");
        m.input(1, 9, 1);
        for (int f = 0; f < 4; f++) {
            m.demand(f, 0);
        }
        CHECK.same("after an edit of class 1", Helper.counts(m), "2 4 3 5 0 4");
        m.input(2, 9, 1);
        for (int f = 0; f < 4; f++) {
            m.demand(f, 0);
        }
        CHECK.same("after an edit of class 2", Helper.counts(m), "3 4 7 5 0 4");
        CHECK.same("a cell without reads is good", Helper.cell(m, 3, 0), "7 3 0 2 0:");
        m.input(2, 9, 2);
        m.input(0, 9, 2);
        m.demand(1, 0);
        CHECK.same("an earlier edit of a greater class", Helper.counts(m), "5 4 8 5 0 4");
    }

    private static void verifiedCellsTakeTheirClassAnew() {
        MemoRuntime m = Helper.with("*0Bk", "?h0g1h1", "Ak");
        m.level(1, 1);
        m.input(1, 0, 1);
        m.demand(2, 0);
        CHECK.same("class 0 by way of g", m.cell(0, 0, 3), 0);
        m.input(1, 0, 0);
        m.demand(2, 0);
        CHECK.same("B reads h alone", Helper.cell(m, 1, 0), "0 2 1 1 0: 16 17");
        CHECK.same("A was verified", Helper.cell(m, 0, 0), "0 2 1 1 0: 116");
        CHECK.same("C was verified", Helper.cell(m, 2, 0), "0 2 1 1 0: 100");
        m.input(0, 1, 1);
        m.demand(2, 0);
        CHECK.same("C is skipped", Helper.counts(m), "3 4 2 1 0 3");
        CHECK.same("A is not asked for", m.cell(0, 0, 1), 2);
    }

    private static void droppedReadCountsAsChanged() {
        MemoRuntime m = Helper.with("+1Bk", "gk");
        m.demand(0, 0);
        m.drop(1, 0);
        m.demand(0, 0);
        CHECK.same("good in this revision: B is not missed", Helper.counts(m), "0 2 0 0 0 1");
        m.input(2, 0, 1);
        m.demand(0, 0);
        CHECK.same("both were run", Helper.counts(m), "1 4 0 0 0 2");
        CHECK.same("B changed", Helper.cell(m, 1, 0), "0 1 1 0 0: 0");
        CHECK.same("A has the value it had", Helper.cell(m, 0, 0), "1 1 0 0 0: 116");
    }

    private static void circleOfOne() {
        MemoRuntime m = Helper.with("+1Ak");
        m.circle(0, 40);
        CHECK.same("demand", m.demand(0, 3), 40);
        CHECK.same("state", Helper.state(m), "counts 1 0 0 0 1 1; recent 3; 0(3) 40 1 1 0 1:");
        CHECK.same("demand again", m.demand(0, 3), 40);
        CHECK.same("counts", Helper.counts(m), "1 0 0 0 1 1");
    }

    private static void circleInTheMiddle() {
        MemoRuntime m = Helper.with("+E0Bk", "+1Ck", "+1Dk", "+1Bk", "9");
        m.circle(1, 10);
        m.circle(2, 20);
        m.circle(3, 30);
        CHECK.same("demand", m.demand(0, 5), 19);
        CHECK.same("A is run with the circle value of B", Helper.state(m),
                "counts 3 2 0 0 3 5; recent 64 21 37 53 5"
                + "; 0(5) 19 3 3 0 0: 164 121; 1(5) 10 3 3 0 1:; 2(5) 20 3 3 0 1:"
                + "; 3(5) 30 3 3 0 1:; 4(0) 9 3 3 2 0:");
    }

    private static void circleWhileReadsAreGoneThrough() {
        MemoRuntime m = Helper.with("Bk", "?g0Ak5", "+1Ak");
        CHECK.same("no circle", m.demand(2, 0), 6);
        m.input(0, 0, 1);
        m.circle(0, 50);
        m.circle(1, 60);
        CHECK.same("a circle of A and B", m.demand(2, 0), 51);
        CHECK.same("state", Helper.state(m), "counts 3 4 0 0 2 3; recent 0 16 32"
                + "; 0(0) 50 3 3 0 1:; 1(0) 60 3 3 0 1:; 2(0) 51 3 3 0 0: 100");
        m.input(0, 0, 0);
        CHECK.same("no circle any more", m.demand(2, 0), 6);
        CHECK.same("state", Helper.state(m), "counts 4 7 0 0 2 3; recent 16 0 32"
                + "; 0(0) 5 4 4 0 0: 116; 1(0) 5 4 4 0 0: 0; 2(0) 6 4 4 0 0: 100");
    }

    private static void circleChangesEvenTheSameValue() {
        MemoRuntime m = Helper.with("?gkAk0", "Ak");
        m.demand(1, 0);
        m.input(0, 0, 1);
        m.demand(1, 0);
        CHECK.same("the same value, of a circle", Helper.cell(m, 0, 0), "0 1 1 0 1:");
        CHECK.same("so its reader was run", Helper.counts(m), "1 3 0 0 1 2");
        CHECK.same("to the same value", Helper.cell(m, 1, 0), "0 1 0 0 0: 100");
    }

    private static void manyCircles() {
        MemoRuntime m = Helper.with("+?kA-k10Ak");
        CHECK.same("circles from the innermost on", m.demand(0, 15), 0);
        CHECK.same("counts", Helper.counts(m), "0 0 0 0 16 16");
        CHECK.same("recent", Helper.recent(m), "0 1 2 3 4 5 6 7 8 9 10 11 12 13 14 15");
    }

    private static void twentyCellsUnderWay() {
        MemoRuntime m = Helper.with("?kA-k1B3", "?kB-k15");
        CHECK.same("twenty cells", m.demand(0, 15), 5);
        CHECK.same("all were run", Helper.counts(m), "0 20 0 0 0 20");
        Helper.define(m, 0, "?kA-k1B4");
        CHECK.fails("twenty-one cells", IllegalStateException.class, () -> m.demand(0, 15));
        CHECK.same("none was run to its end", Helper.counts(m), "0 20 0 0 0 0");
        CHECK.same("one fewer", m.demand(0, 14), 5);
        CHECK.same("then it is kept", m.demand(0, 15), 5);
        CHECK.same("counts", Helper.counts(m), "0 41 0 0 0 21");
        m.input(0, 0, 1);
        CHECK.same("all of class 2: one skip", m.demand(0, 15), 5);
        CHECK.same("counts", Helper.counts(m), "1 41 0 1 0 21");
        Helper.define(m, 1, "?kB-k1h0");
        m.demand(0, 14);
        m.demand(0, 15);
        m.input(1, 0, 2);
        CHECK.fails("going through reads goes as deep", IllegalStateException.class, () -> m.demand(0, 15));
        CHECK.same("nothing was done", Helper.counts(m), "2 62 0 1 0 21");
        CHECK.same("what was kept stays as it was", Helper.cell(m, 0, 15), "0 1 1 0 0: 114");
    }

    private static void givenUpLeavesWhatWasDone() {
        MemoRuntime m = Helper.with("?kA-k1B4", "?kB-k1g0", "+Dk+Ek+FkA?gkk0", "gk", "hk", "i0");
        m.level(1, 1);
        m.demand(2, 15);
        CHECK.same("before", Helper.recent(m), "63 79 95 16 17 18 19 20 0 47");
        m.input(0, 15, 1);
        CHECK.fails("given up", IllegalStateException.class, () -> m.demand(2, 15));
        CHECK.same("run, verified and skipped", Helper.counts(m), "1 11 1 1 0 10");
        CHECK.same("the recent order", Helper.recent(m), "16 17 18 19 20 0 47 63 79 95");
        CHECK.same("run", Helper.cell(m, 3, 15), "1 1 1 0 0: 15");
        CHECK.same("skipped", Helper.cell(m, 4, 15), "0 1 0 1 0: 31");
        CHECK.same("verified", Helper.cell(m, 5, 15), "0 1 0 0 0: 32");
        CHECK.same("not run to the end", Helper.cell(m, 2, 15), "0 0 0 0 0: 163 179 195 15 100");
        CHECK.fails("given up again", IllegalStateException.class, () -> m.demand(2, 15));
        CHECK.same("nothing is left under way", m.demand(0, 14), 0);
    }

    private static void givenUpBehindACircle() {
        MemoRuntime m = Helper.with("+BkC9", "Bk", "?kC-k1D9", "?kD-k1E0", "E1");
        m.circle(1, 77);
        CHECK.fails("given up", IllegalStateException.class, () -> m.demand(0, 0));
        CHECK.same("the circle stays", Helper.state(m), "counts 1 0 0 0 1 1; recent 16; 1(0) 77 1 1 0 1:");
    }

    private static void demandedCellComesToItsEnd() {
        MemoRuntime m = new MemoRuntime();
        m.demand(0, 0);
        m.demand(0, 1);
        m.demand(0, 2);
        CHECK.same("as they were run", Helper.recent(m), "0 1 2");
        m.demand(0, 1);
        CHECK.same("a good cell too", Helper.recent(m), "0 2 1");
        m.input(2, 0, 1);
        m.demand(0, 0);
        CHECK.same("a skipped cell too", Helper.recent(m), "2 1 0");
        MemoRuntime circle = Helper.with("Bk", "Ck", "Ak");
        circle.demand(1, 0);
        CHECK.same("a cell of a circle too", Helper.recent(circle), "32 0 16");
    }

    private static void tooManyCellsGo() {
        MemoRuntime m = Helper.with("?kA-k10");
        m.bound(3);
        CHECK.same("demand", m.demand(0, 9), 0);
        CHECK.same("the first ones went", Helper.recent(m), "7 8 9");
        MemoRuntime circle = Helper.with("Bk", "Ck", "Ak");
        circle.bound(1);
        circle.circle(0, 4);
        CHECK.same("demand", circle.demand(0, 0), 4);
        CHECK.same("the demanded cell is left", Helper.recent(circle), "0");
        MemoRuntime deep = Helper.with("?kA-k1B4", "?kB-k15", "+Dk+Ek+FkA?gkk0");
        deep.bound(2);
        deep.input(0, 15, 1);
        CHECK.fails("given up", IllegalStateException.class, () -> deep.demand(2, 15));
        CHECK.same("no cell goes", Helper.recent(deep), "63 79 95");
        deep.demand(3, 15);
        CHECK.same("with the next demand it does, not the demanded one", Helper.recent(deep), "95 63");
    }

    private static void wrongArguments() {
        MemoRuntime m = Helper.with("gk");
        m.demand(0, 3);
        m.demand(0, 4);
        for (int wrong : new int[] {-1, 6, Integer.MIN_VALUE, Integer.MAX_VALUE}) {
            CHECK.refuses("demand of function " + wrong, m, () -> m.demand(wrong, 3));
        }
        for (int wrong : new int[] {-1, 16, Integer.MIN_VALUE, Integer.MAX_VALUE}) {
            CHECK.refuses("demand with key " + wrong, m, () -> m.demand(0, wrong));
        }
    }
}
