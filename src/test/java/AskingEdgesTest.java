/** 'Terms', the five steps of asking for a cell: each sentence that names a boundary case, with a test of its own. */
public final class AskingEdgesTest {
    private static final Check CHECK = new Check();
    /** With these two the demand of A for 15 has 20 cells under way when it asks for C for 0. */
    private static final String A_OF_20 = "?kA-k1B3";
    private static final String B_OF_20 = "?kB-k1Ck";
    /** With this instead it has 21, and with A for 14 it has 20. */
    private static final String A_OF_21 = "?kA-k1B4";

    public static void main(String[] args) {
        underWayAlthoughKept();
        underWayBeforeTwentyAreLookedAt();
        goodIsAll();
        goodWhenTwentyAreUnderWay();
        noEditOfItsClassOrAGreaterOne();
        sinceItWasLastGood();
        skippedIsGood();
        skippedWhenTwentyAreUnderWay();
        twentyAreRun();
        twentyOneAreGivenUp();
        twentyAreVerified();
        twentyOneAreGivenUpWhenVerified();
        keptIsGivenUpAsWell();
        endedIsUnderWayNoMore();
        readsInTheirOrder();
        firstChangedReadEndsIt();
        cellsAreAskedForFirst();
        changedAfterNotIn();
        readKeptNoMore();
        verifiedWithoutReads();
        verifiedWithTheClassOfNow();
        runWithTheSameValue();
        runWithAnotherValue();
        runWhenNotKeptBefore();
        runWithNewReadsAndClass();
        CHECK.end();
    }

    private static void underWayAlthoughKept() {
        CHECK.sentence("1. If it is under way, that is a circle");
        Memo m = Helper.with("Bk", "?g0Ak5");
        m.circle(0, 50);
        m.circle(1, 60);
        CHECK.same("no circle", m.demand(0, 0), 5);
        m.input(0, 0, 1);
        CHECK.same("its reads are gone through when it is asked for again", m.demand(0, 0), 50);
        CHECK.same("state", Helper.state(m),
                "counts 3 2 0 0 2 2; recent 16 0; 0(0) 50 3 3 0 1:; 1(0) 60 3 3 0 1:");
    }

    private static void underWayBeforeTwentyAreLookedAt() {
        CHECK.sentence("1. If it is under way, that is a circle");
        Memo all = Helper.with(A_OF_20, "?kB-k1A*35");
        all.circle(0, 8);
        CHECK.same("the 20th asks for the first", all.demand(0, 15), 8);
        CHECK.same("a circle of 20", Helper.counts(all), "1 0 0 0 20 20");
        CHECK.same("in their order", Helper.recent(all), "14 13 12 11 10 9 8 7 6 5 4 3 2 1 0 19 18 17 16 15");
        Memo last = Helper.with(A_OF_20, "?kB-k1Bk");
        last.circle(1, 9);
        CHECK.same("the 20th asks for itself", last.demand(0, 15), 9);
        CHECK.same("a circle of one", Helper.counts(last), "1 19 0 0 1 20");
    }

    private static void goodIsAll() {
        CHECK.sentence("If it is kept and was good in this revision, that is all.");
        Memo m = Helper.with("+BkCk", "gk", "hk");
        m.demand(2, 0);
        m.demand(1, 0);
        m.demand(0, 0);
        CHECK.same("those that are read stay where they are", Helper.recent(m), "32 16 0");
        m.drop(1, 0);
        m.demand(0, 0);
        CHECK.same("reads are not looked at", Helper.state(m), "counts 0 3 0 0 0 2; recent 32 0"
                + "; 0(0) 0 0 0 0 0: 116 132; 2(0) 0 0 0 0 0: 16");
    }

    private static void goodWhenTwentyAreUnderWay() {
        CHECK.sentence("If it is kept and was good in this revision, that is all.");
        Memo m = Helper.with(A_OF_20, B_OF_20, "+6gk");
        m.demand(2, 0);
        CHECK.same("the 21st is good", m.demand(0, 15), 6);
        CHECK.same("counts", Helper.counts(m), "0 21 0 0 0 21");
    }

    private static void noEditOfItsClassOrAGreaterOne() {
        CHECK.sentence("there was no edit of its class or a greater one since it was last good, it is SKIPPED");
        String[] due = {"5 1 1 0 0 1", "5 1 0 1 0 1"};
        Memo m = Helper.with("hk");
        m.level(1, 1);
        m.level(2, 2);
        m.demand(0, 0);
        for (int i = 1; i <= 4; i++) {
            m.input(0, 15, i);
        }
        m.circle(0, 1);
        m.demand(0, 0);
        CHECK.same("five edits of a class less by 1", Helper.counts(m), due[1]);
        for (int ofEdit = 1; ofEdit <= 2; ofEdit++) {
            for (int place = 1; place <= 5; place++) {
                CHECK.same("edit " + place + " of five has class " + ofEdit,
                        countsAfterFiveEdits(ofEdit, place), due[0]);
            }
        }
    }

    /** A cell of class 1; all edits but one are of class 0. */
    private static String countsAfterFiveEdits(int ofEdit, int place) {
        Memo m = Helper.with("hk");
        m.level(1, 1);
        m.level(2, 2);
        m.demand(0, 0);
        for (int i = 1; i <= 5; i++) {
            m.input(i == place ? ofEdit : 0, 15, i);
        }
        m.demand(0, 0);
        return Helper.counts(m);
    }

    private static void sinceItWasLastGood() {
        CHECK.sentence("there was no edit of its class or a greater one since it was last good, it is SKIPPED");
        Memo m = Helper.with("hk");
        m.level(1, 1);
        m.level(2, 2);
        m.input(2, 0, 1);
        m.demand(0, 0);
        m.input(0, 0, 1);
        m.demand(0, 0);
        CHECK.same("one in the revision in which it was run", Helper.counts(m), "2 1 0 1 0 1");
        m.input(1, 1, 1);
        m.demand(0, 0);
        CHECK.same("one after it was skipped", Helper.counts(m), "3 1 1 1 0 1");
        m.input(0, 0, 2);
        m.demand(0, 0);
        CHECK.same("one in the revision in which it was verified", Helper.counts(m), "4 1 1 2 0 1");
    }

    private static void skippedIsGood() {
        CHECK.sentence("it is SKIPPED: it is good in this revision");
        Memo m = Helper.with("Bk", "hk");
        m.level(1, 1);
        m.demand(0, 0);
        m.input(0, 0, 1);
        m.demand(0, 0);
        CHECK.same("the rest of it stays", Helper.cell(m, 0, 0), "0 1 0 1 0: 116");
        CHECK.same("what it reads is not asked for", Helper.cell(m, 1, 0), "0 0 0 1 0: 16");
        m.demand(0, 0);
        CHECK.same("it is not skipped twice", Helper.counts(m), "1 2 0 1 0 2");
    }

    private static void skippedWhenTwentyAreUnderWay() {
        CHECK.sentence("3. Otherwise, if 20 cells are under way, all is given up.");
        Memo m = Helper.with(A_OF_20, B_OF_20, "7");
        m.demand(2, 0);
        m.input(0, 0, 1);
        CHECK.same("the 21st is skipped", m.demand(0, 15), 7);
        CHECK.same("counts", Helper.counts(m), "1 21 0 1 0 21");
    }

    private static void twentyAreRun() {
        CHECK.sentence("3. Otherwise, if 20 cells are under way, all is given up.");
        Memo m = Helper.with(A_OF_20, "?kB-k1+5hk");
        CHECK.same("19 under way when the 20th is asked for", m.demand(0, 15), 5);
        CHECK.same("counts", Helper.counts(m), "0 20 0 0 0 20");
    }

    private static void twentyOneAreGivenUp() {
        CHECK.sentence("3. Otherwise, if 20 cells are under way, all is given up.");
        Memo m = Helper.with(A_OF_21, "?kB-k15");
        CHECK.fails("20 under way when the 21st is asked for", IllegalStateException.class, () -> m.demand(0, 15));
        CHECK.same("none was run to its end", Helper.state(m), "counts 0 0 0 0 0 0; recent");
        CHECK.fails("again", IllegalStateException.class, () -> m.demand(0, 15));
        CHECK.same("one fewer: nothing was left under way", m.demand(0, 14), 5);
        CHECK.same("counts", Helper.counts(m), "0 20 0 0 0 20");
        CHECK.same("then the first one", m.demand(0, 15), 5);
    }

    private static void twentyAreVerified() {
        CHECK.sentence("If not, it is under way from now on.");
        Memo m = Helper.with(A_OF_20, "?kB-k1+5hk");
        m.demand(0, 15);
        m.input(1, 1, 1);
        CHECK.same("20 are gone through", m.demand(0, 15), 5);
        CHECK.same("counts", Helper.counts(m), "1 20 20 0 0 20");
        m.input(1, 0, 1);
        CHECK.same("20 are gone through and run", m.demand(0, 15), 6);
        CHECK.same("counts", Helper.counts(m), "2 40 20 0 0 20");
    }

    private static void twentyOneAreGivenUpWhenVerified() {
        CHECK.sentence("3. Otherwise, if 20 cells are under way, all is given up.");
        Memo m = Helper.with(A_OF_21, "?kB-k1hk");
        m.demand(0, 14);
        m.demand(0, 15);
        m.input(1, 1, 1);
        CHECK.fails("21 to be gone through", IllegalStateException.class, () -> m.demand(0, 15));
        CHECK.same("none was verified", Helper.counts(m), "1 21 0 0 0 21");
        CHECK.same("the first one is as it was", Helper.cell(m, 0, 15), "0 0 0 0 0: 114");
        CHECK.same("the last one is as it was", Helper.cell(m, 1, 0), "0 0 0 0 0: 16");
        m.demand(0, 14);
        m.demand(0, 15);
        CHECK.same("one after the other", Helper.counts(m), "1 21 21 0 0 21");
    }

    private static void keptIsGivenUpAsWell() {
        CHECK.sentence("3. Otherwise, if 20 cells are under way, all is given up.");
        Memo m = Helper.with(A_OF_20, B_OF_20, "gk");
        m.demand(2, 0);
        m.input(0, 1, 1);
        CHECK.fails("the 21st is kept, but not good", IllegalStateException.class, () -> m.demand(0, 15));
        CHECK.same("it is as it was", Helper.state(m), "counts 1 1 0 0 0 1; recent 32; 2(0) 0 0 0 0 0: 0");
    }

    private static void endedIsUnderWayNoMore() {
        CHECK.sentence("It is under way no more.");
        Memo m = Helper.with("+Bk?kA-k1C3", "g1", "?kC-k15");
        CHECK.same("20 under way, 16 have ended before", m.demand(0, 15), 5);
        CHECK.same("they were run", Helper.counts(m), "0 36 0 0 0 36");
        m.input(0, 2, 1);
        CHECK.same("20 under way, 16 have ended before", m.demand(0, 15), 5);
        CHECK.same("verified, and one skipped", Helper.counts(m), "1 36 32 1 0 36");
    }

    private static void readsInTheirOrder() {
        CHECK.sentence("4. If it is kept, its reads are gone through, in their order");
        Memo m = Helper.with("*B0?g0C01", "g1", "g2");
        m.input(0, 0, 1);
        m.demand(0, 0);
        CHECK.same("before", Helper.cell(m, 0, 0), "0 1 1 0 0: 116 0 132");
        m.input(0, 0, 0);
        m.demand(0, 0);
        CHECK.same("B is verified, then the input has changed, C is not asked for", Helper.state(m),
                "counts 2 4 1 0 0 3; recent 32 16 0"
                + "; 0(0) 0 2 1 0 0: 116 0; 1(0) 0 2 1 0 0: 1; 2(0) 0 1 1 0 0: 2");
    }

    private static void firstChangedReadEndsIt() {
        CHECK.sentence("if it changed after the revision in which this cell was last good, this cell is run (5)");
        Memo m = Helper.with("?g0B0C0", "g1", "8");
        m.input(0, 0, 1);
        m.demand(0, 0);
        m.input(0, 0, 0);
        CHECK.same("the first read has changed", m.demand(0, 0), 8);
        CHECK.same("B is not asked for", Helper.cell(m, 1, 0), "0 1 1 0 0: 1");
    }

    private static void cellsAreAskedForFirst() {
        CHECK.sentence("one that is a cell is asked for, first");
        Memo m = Helper.with("Bk", "Ck", "gk");
        m.demand(0, 15);
        m.input(0, 15, 6);
        CHECK.same("what is read by way of two cells", m.demand(0, 15), 6);
        CHECK.same("all were run", Helper.counts(m), "1 6 0 0 0 3");
    }

    private static void changedAfterNotIn() {
        CHECK.sentence("if it changed after the revision in which this cell was last good, this cell is run (5)");
        Memo m = Helper.with("Bk", "gk");
        m.input(0, 0, 1);
        m.demand(0, 0);
        m.input(0, 9, 1);
        m.demand(0, 0);
        CHECK.same("changed in that revision: verified", Helper.counts(m), "2 2 2 0 0 2");
        m.input(0, 0, 2);
        m.demand(1, 0);
        m.demand(0, 0);
        CHECK.same("changed in the next one: run", Helper.counts(m), "3 4 2 0 0 2");
        m.input(0, 9, 2);
        m.demand(1, 0);
        m.demand(0, 0);
        CHECK.same("good in the next one, but not changed: verified", Helper.counts(m), "4 4 4 0 0 2");
    }

    private static void readKeptNoMore() {
        CHECK.sentence("it changed in this revision, unless it was kept before with the same value");
        Memo m = Helper.with("+1Bk", "gk");
        m.demand(0, 0);
        m.drop(1, 0);
        m.input(2, 0, 1);
        m.demand(0, 0);
        CHECK.same("both were run", Helper.counts(m), "1 4 0 0 0 2");
        CHECK.same("B was not kept: it changed", Helper.cell(m, 1, 0), "0 1 1 0 0: 0");
        CHECK.same("A was kept with that value: it did not", Helper.cell(m, 0, 0), "1 1 0 0 0: 116");
    }

    private static void verifiedWithoutReads() {
        CHECK.sentence("its class is the least one that its reads have now (2 without reads)");
        Memo m = Helper.with("7");
        m.level(1, 2);
        m.demand(0, 0);
        m.input(1, 0, 1);
        m.demand(0, 0);
        CHECK.same("counts", Helper.counts(m), "1 1 1 0 0 1");
        CHECK.same("its cell", Helper.cell(m, 0, 0), "7 1 0 2 0:");
    }

    private static void verifiedWithTheClassOfNow() {
        CHECK.sentence("it is good in this revision, its class is the least one that its reads have now");
        Memo m = Helper.with("*0Bk", "?h0g1i1");
        m.level(1, 1);
        m.level(2, 2);
        m.input(1, 0, 1);
        m.demand(0, 0);
        CHECK.same("B reads h and g", Helper.cell(m, 0, 0), "0 1 1 0 0: 116");
        m.input(1, 0, 0);
        m.demand(0, 0);
        CHECK.same("B reads h and i: a greater class", Helper.cell(m, 0, 0), "0 2 1 1 0: 116");
        m.input(1, 0, 1);
        m.demand(0, 0);
        CHECK.same("B reads h and g: a lesser class", Helper.cell(m, 0, 0), "0 3 1 0 0: 116");
        CHECK.same("A was run once", Helper.counts(m), "3 4 2 0 0 2");
    }

    private static void runWithTheSameValue() {
        CHECK.sentence("unless it was kept before with the same value (then it changed when it did before)");
        Memo m = Helper.with("-gkgk");
        m.input(0, 0, 1);
        m.demand(0, 0);
        m.input(0, 0, 2);
        m.demand(0, 0);
        CHECK.same("the same value", Helper.cell(m, 0, 0), "0 2 1 0 0: 0");
        CHECK.same("it was run", Helper.counts(m), "2 2 0 0 0 1");
    }

    private static void runWithAnotherValue() {
        CHECK.sentence("it changed in this revision");
        Memo m = Helper.with("gk");
        m.demand(0, 0);
        m.input(0, 0, 2);
        m.demand(0, 0);
        CHECK.same("another value", Helper.cell(m, 0, 0), "2 1 1 0 0: 0");
        m.input(0, 0, 0);
        m.demand(0, 0);
        CHECK.same("the value before that", Helper.cell(m, 0, 0), "0 2 2 0 0: 0");
    }

    private static void runWhenNotKeptBefore() {
        CHECK.sentence("it changed in this revision, unless it was kept before with the same value");
        Memo m = Helper.with("7");
        m.input(0, 0, 1);
        m.demand(0, 0);
        CHECK.same("for the first time", Helper.cell(m, 0, 0), "7 1 1 2 0:");
        m.demand(1, 0);
        CHECK.same("for the first time, worth 0", Helper.cell(m, 1, 0), "0 1 1 2 0:");
        m.input(0, 0, 2);
        m.drop(0, 0);
        m.demand(0, 0);
        CHECK.same("after it was dropped", Helper.cell(m, 0, 0), "7 2 2 2 0:");
        m.input(0, 0, 3);
        m.level(2, 2);
        m.demand(0, 0);
        CHECK.same("after level", Helper.cell(m, 0, 0), "7 3 3 2 0:");
        m.input(0, 0, 4);
        Helper.define(m, 0, "7");
        m.demand(0, 0);
        CHECK.same("after define", Helper.cell(m, 0, 0), "7 4 4 2 0:");
        m.input(0, 0, 5);
        m.bound(1);
        m.demand(1, 0);
        m.demand(0, 0);
        CHECK.same("after it was one too many", Helper.cell(m, 0, 0), "7 5 5 2 0:");
    }

    private static void runWithNewReadsAndClass() {
        CHECK.sentence("Then it is kept with the new value, reads and class, and good in this revision");
        Memo m = Helper.with("?i0+i1+h1i2i3");
        m.level(1, 1);
        m.level(2, 2);
        m.input(2, 0, 1);
        m.demand(0, 0);
        CHECK.same("more reads", Helper.cell(m, 0, 0), "0 1 1 1 0: 32 33 17 34");
        m.input(2, 3, 9);
        m.input(2, 0, 0);
        m.demand(0, 0);
        CHECK.same("fewer reads", Helper.cell(m, 0, 0), "9 3 3 2 0: 32 35");
        CHECK.same("no read behind them", m.read(0, 0, 2), Memo.NONE);
        m.input(1, 1, 1);
        m.demand(0, 0);
        CHECK.same("the former reads count no more: skipped", Helper.counts(m), "4 2 0 1 0 1");
    }
}
