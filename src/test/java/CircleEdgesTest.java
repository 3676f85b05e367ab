/** 'Terms' on circles and the recent order: each sentence that names a boundary case, with a test of its own. */
public final class CircleEdgesTest {
    private static final Check CHECK = new Check();

    public static void main(String[] args) {
        circleOfOne();
        fromTheOneAskedForAgainOn();
        theirFunctionsCircleValues();
        asKeptInACircle();
        readersOfCircles();
        nothingElseIsUnderWay();
        theWholeDemandBeginsAnew();
        circleBehindCircle();
        asManyCirclesAsCells();
        withTheNextEdit();
        notWithoutAnEdit();
        ofACircleNoMore();
        skippedComesToItsEnd();
        verifiedComesToItsEnd();
        runComesToItsEnd();
        circleComesToItsEnd();
        demandedComesToItsEnd();
        othersStayWhereTheyAre();
        CHECK.end();
    }

    private static void circleOfOne() {
        CHECK.sentence("In a CIRCLE all cells under way, from the one that was asked for again on,"
                + " get their function's circle value");
        Memo m = Helper.with("+1Ak");
        m.circle(0, 40);
        CHECK.same("demand", m.demand(0, 3), 40);
        CHECK.same("state", Helper.state(m), "counts 1 0 0 0 1 1; recent 3; 0(3) 40 1 1 0 1:");
        CHECK.same("demand again", m.demand(0, 3), 40);
        CHECK.same("it is good", Helper.counts(m), "1 0 0 0 1 1");
    }

    private static void fromTheOneAskedForAgainOn() {
        CHECK.sentence("In a CIRCLE all cells under way, from the one that was asked for again on,"
                + " get their function's circle value");
        String[] last = {"Ak", "Bk", "Ck", "Dk"};
        String[] due = {
            "counts 0 0 0 0 4 4; recent 16 32 48 0"
                + "; 0(0) 0 0 0 0 1:; 1(0) 0 0 0 0 1:; 2(0) 0 0 0 0 1:; 3(0) 0 0 0 0 1:",
            "counts 0 1 0 0 3 4; recent 16 32 48 0"
                + "; 0(0) 1 0 0 0 0: 116; 1(0) 0 0 0 0 1:; 2(0) 0 0 0 0 1:; 3(0) 0 0 0 0 1:",
            "counts 0 2 0 0 2 4; recent 32 48 16 0"
                + "; 0(0) 2 0 0 0 0: 116; 1(0) 1 0 0 0 0: 132; 2(0) 0 0 0 0 1:; 3(0) 0 0 0 0 1:",
            "counts 0 3 0 0 1 4; recent 48 32 16 0"
                + "; 0(0) 3 0 0 0 0: 116; 1(0) 2 0 0 0 0: 132; 2(0) 1 0 0 0 0: 148; 3(0) 0 0 0 0 1:",
        };
        for (int i = 0; i < last.length; i++) {
            Memo m = Helper.with("+1Bk", "+1Ck", "+1Dk", last[i]);
            CHECK.same("demand with " + last[i], m.demand(0, 0), i);
            CHECK.same("state with " + last[i], Helper.state(m), due[i]);
        }
    }

    private static void theirFunctionsCircleValues() {
        CHECK.sentence("get their function's circle value");
        Memo m = Helper.with("A+k1");
        m.circle(0, Integer.MIN_VALUE);
        CHECK.same("sixteen cells of one function", m.demand(0, 7), Integer.MIN_VALUE);
        CHECK.same("each is of the circle", m.count(4), 16);
        CHECK.same("the last of them", m.cell(0, 6, 0), Integer.MIN_VALUE);
        Memo two = Helper.with("0", "Ck", "B+k4");
        two.circle(1, Integer.MAX_VALUE);
        two.circle(2, -1);
        CHECK.same("four cells of each of two functions", two.demand(1, 0), Integer.MAX_VALUE);
        CHECK.same("each is of the circle", Helper.recent(two), "32 20 36 24 40 28 44 16");
        CHECK.same("the last of them", two.cell(2, 12, 0), -1);
    }

    private static void asKeptInACircle() {
        CHECK.sentence("they are kept with that, without reads, good and changed in this revision,"
                + " with the class 0, and of a circle");
        Memo m = Helper.with("?ikBk5", "?ikAk6");
        m.level(2, 2);
        m.circle(0, 5);
        m.circle(1, 6);
        m.demand(0, 0);
        m.demand(1, 0);
        CHECK.same("before", Helper.cell(m, 0, 0), "5 2 2 2 0: 32");
        m.input(2, 0, 1);
        CHECK.same("the circle value is the value that it had", m.demand(0, 0), 5);
        CHECK.same("state", Helper.state(m), "counts 3 2 0 0 2 2; recent 16 0; 0(0) 5 3 3 0 1:; 1(0) 6 3 3 0 1:");
        CHECK.same("no read is left", m.read(0, 0, 0), Memo.NONE);
    }

    private static void readersOfCircles() {
        CHECK.sentence("good and changed in this revision, with the class 0, and of a circle");
        Memo m = Helper.with("?ikAk0", "Ak");
        m.level(2, 2);
        m.demand(1, 0);
        CHECK.same("before", Helper.cell(m, 1, 0), "0 0 0 2 0: 100");
        m.input(2, 0, 1);
        m.demand(1, 0);
        CHECK.same("it changed, so its reader was run", Helper.counts(m), "1 3 0 0 1 2");
        CHECK.same("it has class 0, so its reader has; that is of no circle", Helper.cell(m, 1, 0), "0 1 0 0 0: 100");
    }

    private static void nothingElseIsUnderWay() {
        CHECK.sentence("Nothing else is under way any more");
        Memo m = Helper.with("+BkC9", "Bk", "?kC-k1D8", "?kD-k15");
        CHECK.same("20 under way after a circle", m.demand(0, 0), 5);
        CHECK.same("counts", Helper.counts(m), "0 20 0 0 1 21");
        Memo deep = Helper.with("+BkC9", "Bk", "?kC-k1D9", "?kD-k15");
        deep.circle(1, 77);
        CHECK.fails("21 under way after a circle", IllegalStateException.class, () -> deep.demand(0, 0));
        CHECK.same("the circle stays", Helper.state(deep), "counts 1 0 0 0 1 1; recent 16; 1(0) 77 1 1 0 1:");
    }

    private static void theWholeDemandBeginsAnew() {
        CHECK.sentence("and the whole demand begins anew");
        Memo m = Helper.with("+Ek+BkFk", "+EkCk", "+Ek+1Bk", "0", "gk", "hk");
        CHECK.same("demand", m.demand(0, 0), 0);
        CHECK.same("A is run to its end once, E and F once, B and C not", Helper.counts(m), "0 3 0 0 2 5");
        CHECK.same("in this order", Helper.recent(m), "64 16 32 80 0");
        m.input(0, 0, 1);
        m.demand(0, 0);
        CHECK.same("E and A are run again, F is verified", Helper.counts(m), "1 5 1 0 4 5");
        CHECK.same("in this order", Helper.recent(m), "64 16 32 80 0");
    }

    private static void circleBehindCircle() {
        CHECK.sentence("its cell is asked for, as often as circles make it begin anew");
        Memo m = Helper.with("+?kA-k10Ak");
        CHECK.same("circles of one, from the innermost on", m.demand(0, 15), 0);
        CHECK.same("counts", Helper.counts(m), "0 0 0 0 16 16");
        CHECK.same("recent", Helper.recent(m), "0 1 2 3 4 5 6 7 8 9 10 11 12 13 14 15");
    }

    private static void asManyCirclesAsCells() {
        CHECK.sentence("its cell is asked for, as often as circles make it begin anew");
        Memo m = Helper.with("+?kA-k10+Bk+Ck+Dk+EkAk", "Bk", "Ck", "Dk", "+FkEk", "Fk");
        m.circle(0, 3);
        CHECK.same("a circle of one for each cell there is", m.demand(0, 15), 3);
        CHECK.same("counts", Helper.counts(m), "1 0 0 0 96 96");
        CHECK.same("the last one", m.recent(95), 15);
    }

    /** A circle of A and B, one of C alone, D, that reads C, and E. */
    private static Memo withTwoCircles() {
        Memo m = Helper.with("Bk", "Ak", "Ck", "Ck", "gk");
        m.level(2, 2);
        m.demand(0, 0);
        m.demand(3, 0);
        m.demand(4, 0);
        CHECK.same("with two circles", Helper.recent(m), "16 0 32 48 64");
        return m;
    }

    private static void withTheNextEdit() {
        CHECK.sentence("With the next edit all cells of circles are kept no more.");
        for (int table = 0; table < Helper.TABLES; table++) {
            Memo m = withTwoCircles();
            m.input(table, 9, 1);
            CHECK.same("after an edit of table " + table, Helper.state(m), "counts 1 2 0 0 3 2; recent 48 64"
                    + "; 3(0) 0 0 0 0 0: 132; 4(0) 0 0 0 0 0: 0");
        }
        Memo m = withTwoCircles();
        m.circle(5, 1);
        CHECK.same("after the edit of a circle value", Helper.state(m), "counts 1 2 0 0 3 2; recent 48 64"
                + "; 3(0) 0 0 0 0 0: 132; 4(0) 0 0 0 0 0: 0");
        m.demand(3, 0);
        CHECK.same("C is a circle again", Helper.counts(m), "1 3 0 0 4 3");
    }

    private static void notWithoutAnEdit() {
        CHECK.sentence("With the next edit all cells of circles are kept no more.");
        Memo m = withTwoCircles();
        m.input(0, 9, 0);
        m.circle(0, 0);
        m.write('x');
        m.define(0);
        m.wipe();
        m.drop(0, 1);
        m.bound(5);
        CHECK.fails("a refused edit", IllegalArgumentException.class, () -> m.input(3, 9, 1));
        CHECK.fails("a refused edit", IllegalArgumentException.class, () -> m.circle(6, 1));
        m.demand(4, 0);
        CHECK.same("none is gone", Helper.recent(m), "16 0 32 48 64");
    }

    private static void ofACircleNoMore() {
        CHECK.sentence("With the next edit all cells of circles are kept no more.");
        Memo m = Helper.with("Bk", "Ak");
        m.circle(0, 50);
        m.circle(1, 60);
        CHECK.same("a circle", m.demand(0, 0), 50);
        m.drop(0, 0);
        CHECK.same("dropped, it is run: B is still of a circle", m.demand(0, 0), 60);
        CHECK.same("it is not", Helper.cell(m, 0, 0), "60 2 2 0 0: 116");
        m.input(0, 0, 1);
        CHECK.same("only B is kept no more", Helper.state(m), "counts 3 1 0 0 2 1; recent 0; 0(0) 60 2 2 0 0: 116");
        CHECK.same("a circle again", m.demand(0, 0), 50);
        CHECK.same("counts", Helper.counts(m), "3 1 0 0 4 2");
    }

    /** C, B and F are kept, in that order; A reads B and C, and both are of a class that a level gave. */
    private static Memo withThreeInOrder(int ofBoth) {
        Memo m = Helper.with("+gk+BkCk", "hk", "hk", "0", "0", "0");
        m.level(1, ofBoth);
        m.demand(2, 0);
        m.demand(1, 0);
        m.demand(5, 0);
        CHECK.same("three in order", Helper.recent(m), "32 16 80");
        return m;
    }

    private static void skippedComesToItsEnd() {
        CHECK.sentence("a cell comes to its end when it is skipped");
        Memo m = withThreeInOrder(1);
        m.input(0, 9, 1);
        m.demand(0, 0);
        CHECK.same("both were skipped", Helper.counts(m), "1 4 0 2 0 4");
        CHECK.same("recent", Helper.recent(m), "80 16 32 0");
    }

    private static void verifiedComesToItsEnd() {
        CHECK.sentence("a cell comes to its end when it is skipped, verified");
        Memo m = withThreeInOrder(0);
        m.input(0, 9, 1);
        m.demand(0, 0);
        CHECK.same("both were verified", Helper.counts(m), "1 4 2 0 0 4");
        CHECK.same("recent", Helper.recent(m), "80 16 32 0");
    }

    private static void runComesToItsEnd() {
        CHECK.sentence("a cell comes to its end when it is skipped, verified, run");
        Memo m = withThreeInOrder(0);
        m.input(1, 0, 1);
        m.demand(0, 0);
        CHECK.same("both were run again", Helper.counts(m), "1 6 0 0 0 4");
        CHECK.same("recent", Helper.recent(m), "80 16 32 0");
    }

    private static void circleComesToItsEnd() {
        CHECK.sentence("gets a circle value (those of a circle one after the other,"
                + " the one that was asked for again first)");
        Memo m = Helper.with("Bk", "Ck", "Dk", "Bk", "?gkD2k", "0");
        m.demand(4, 1);
        m.demand(5, 0);
        m.demand(0, 0);
        CHECK.same("those of the circle behind what was kept", Helper.recent(m), "65 80 16 32 48 0");
        Memo kept = Helper.with("?gkBk0", "?gkCk0", "?gkAk0");
        kept.demand(2, 0);
        kept.demand(0, 0);
        kept.demand(1, 0);
        kept.demand(5, 0);
        CHECK.same("kept before", Helper.recent(kept), "32 0 16 80");
        kept.input(0, 0, 1);
        kept.demand(0, 0);
        CHECK.same("the demanded one once more, at the end of the demand", Helper.recent(kept), "80 16 32 0");
    }

    private static void demandedComesToItsEnd() {
        CHECK.sentence("and when a demand for it ends well");
        Memo m = new Memo();
        m.demand(0, 0);
        m.demand(0, 1);
        m.demand(0, 2);
        m.demand(0, 0);
        CHECK.same("the first of three", Helper.recent(m), "1 2 0");
        m.demand(0, 2);
        CHECK.same("the one in the middle", Helper.recent(m), "1 0 2");
        m.demand(0, 2);
        CHECK.same("the last one", Helper.recent(m), "1 0 2");
        Memo deep = Helper.with("?kA-k1B4", "?kB-k1gk");
        deep.demand(0, 14);
        deep.demand(0, 15);
        deep.demand(5, 5);
        String before = Helper.recent(deep);
        deep.input(0, 0, 1);
        CHECK.fails("one that does not end well", IllegalStateException.class, () -> deep.demand(0, 15));
        CHECK.same("it stays where it was", Helper.recent(deep), before);
    }

    private static void othersStayWhereTheyAre() {
        CHECK.sentence("a cell comes to its end when it is skipped, verified, run, gets a circle value");
        Memo m = withThreeInOrder(0);
        m.kept(2, 0);
        m.cell(2, 0, 0);
        m.read(2, 0, 0);
        m.recent(0);
        m.drop(0, 0);
        m.bound(3);
        m.input(1, 0, 1);
        CHECK.same("looks and edits", Helper.recent(m), "32 16 80");
    }
}
