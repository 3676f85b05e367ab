import java.util.NoSuchElementException;

/** Promises 8 to 15: each sentence that names a boundary case, with a test of its own. */
public final class Promises8To15EdgesTest {
    private static final Check CHECK = new Check();
    private static final int MIN = Integer.MIN_VALUE;
    private static final int MAX = Integer.MAX_VALUE;
    private static final int[] NO_FUNCTION = {-1, 6, 7, MIN, MAX};
    private static final int[] NO_KEY = {-1, 16, 17, 32, MIN, MAX};

    public static void main(String[] args) {
        promise8AsManyAsMayBe();
        promise8OneTooMany();
        promise8OnlyThen();
        promise8DemandedOneOfACircle();
        promise8WrongFunction();
        promise8WrongKey();
        promise8GivenUp();
        promise8NoCellGoes();
        promise9AnotherWhat();
        promise9RunToTheEnd();
        promise10AtTheEdges();
        promise10WrongFunction();
        promise10WrongKey();
        promise11WrongFunction();
        promise11WrongKey();
        promise11WrongWhat();
        promise11NotKept();
        promise12NumbersOfReads();
        promise12NoSuchRead();
        promise12WrongFunction();
        promise12WrongKey();
        promise12NotKept();
        promise13FewerAreKept();
        promise14AsManyAsAreKept();
        promise14TooMany();
        promise14TheMost();
        promise14AfterGivingUp();
        promise14WrongBound();
        promise15WhetherItWas();
        promise15AnyPlaceInTheOrder();
        promise15WrongFunction();
        promise15WrongKey();
        theOneNamedFirst();
        CHECK.end();
    }

    private static void promise8AsManyAsMayBe() {
        CHECK.sentence("Then, while more cells are kept than may be,"
                + " the first one in the recent order is kept no more.");
        Memo m = Helper.with("?kA-k10");
        m.bound(10);
        m.demand(0, 9);
        CHECK.same("as many as may be", Helper.recent(m), "0 1 2 3 4 5 6 7 8 9");
        m.demand(0, 9);
        CHECK.same("none new", Helper.recent(m), "0 1 2 3 4 5 6 7 8 9");
    }

    private static void promise8OneTooMany() {
        CHECK.sentence("Then, while more cells are kept than may be,"
                + " the first one in the recent order is kept no more.");
        Memo m = Helper.with("?kA-k10");
        m.bound(10);
        m.demand(0, 10);
        CHECK.same("one more", Helper.recent(m), "1 2 3 4 5 6 7 8 9 10");
        m.demand(1, 0);
        CHECK.same("and one more", Helper.recent(m), "2 3 4 5 6 7 8 9 10 16");
        Memo one = Helper.with("?kA-k10");
        one.bound(1);
        one.demand(0, 15);
        CHECK.same("all but the demanded one", Helper.recent(one), "15");
        one.demand(0, 14);
        CHECK.same("the next demanded one", Helper.recent(one), "14");
        CHECK.same("all that it reads were run again", Helper.counts(one), "0 31 0 0 0 1");
    }

    private static void promise8OnlyThen() {
        CHECK.sentence("Then, while more cells are kept than may be,"
                + " the first one in the recent order is kept no more.");
        Memo m = Helper.with("+Bk+CkBk", "+Dkgk", "+DkBk", "hk");
        m.bound(1);
        m.demand(0, 0);
        CHECK.same("none goes before the end: each was run once", Helper.counts(m), "0 4 0 0 0 1");
    }

    private static void promise8DemandedOneOfACircle() {
        CHECK.sentence("and when a demand for it ends well");
        String[] due = {"0", "32 0", "16 32 0"};
        for (int n = 1; n <= 3; n++) {
            Memo m = Helper.with("Bk", "Ck", "Ak");
            m.circle(0, 4);
            m.bound(n);
            CHECK.same("demand", m.demand(0, 0), 4);
            CHECK.same("the demanded one is the last to go", Helper.recent(m), due[n - 1]);
        }
    }

    private static void promise8WrongFunction() {
        CHECK.sentence("IllegalArgumentException: f is not 0 .. 5");
        for (int f : NO_FUNCTION) {
            CHECK.refuses("demand(" + f + ", 0)", m -> m.demand(f, 0));
            CHECK.refuses("demand(" + f + ", 15)", m -> m.demand(f, 15));
        }
    }

    private static void promise8WrongKey() {
        CHECK.sentence("or key not 0 .. 15");
        for (int key : NO_KEY) {
            CHECK.refuses("demand(0, " + key + ")", m -> m.demand(0, key));
            CHECK.refuses("demand(5, " + key + ")", m -> m.demand(5, key));
        }
    }

    private static void promise8GivenUp() {
        CHECK.sentence("IllegalStateException: all was given up; what was run, verified and skipped until then,"
                + " and circles, stay");
        Memo m = Helper.with("+Ck+D0+D1+EkB9", "?kB-k1F9", "gk", "hk", "Ek", "?kF-k10");
        m.level(1, 1);
        m.demand(2, 0);
        m.demand(3, 0);
        m.input(0, 5, 1);
        CHECK.fails("given up", IllegalStateException.class, () -> m.demand(0, 0));
        CHECK.same("verified, skipped, run, a circle", Helper.state(m), "counts 1 3 1 1 1 4; recent 32 48 49 64"
                + "; 2(0) 0 1 0 0 0: 0; 3(0) 0 1 0 1 0: 16; 3(1) 0 1 1 1 0: 17; 4(0) 0 1 1 0 1:");
        CHECK.fails("given up again", IllegalStateException.class, () -> m.demand(0, 0));
        CHECK.same("nothing more to do", Helper.counts(m), "1 3 1 1 1 4");
    }

    private static void promise8NoCellGoes() {
        CHECK.sentence("(and no cell goes)");
        Memo m = Helper.with("+Ck+D0+EkB9", "?kB-k1F9", "gk", "hk", "Ek", "?kF-k10");
        m.bound(1);
        m.demand(3, 5);
        CHECK.fails("given up", IllegalStateException.class, () -> m.demand(0, 0));
        CHECK.same("more than may be", Helper.recent(m), "53 32 48 64");
        CHECK.fails("given up again", IllegalStateException.class, () -> m.demand(0, 0));
        CHECK.same("more than may be still", Helper.recent(m), "53 32 48 64");
        m.demand(2, 0);
        CHECK.same("with the next demand that ends well they go", Helper.recent(m), "32");
    }

    private static void promise9AnotherWhat() {
        CHECK.sentence("NONE for another what");
        Memo m = Twins.make();
        for (int what : new int[] {-1, 6, 7, 255, 256, MIN, MAX}) {
            CHECK.same("count(" + what + ")", m.count(what), Memo.NONE);
        }
        CHECK.same("the first what", m.count(0), 16);
        CHECK.same("the last what", m.count(5), 8);
    }

    private static void promise9RunToTheEnd() {
        CHECK.sentence("how many cells were run (1; to the end), verified (2), skipped (3),"
                + " got circle values (4), in all");
        Memo m = Helper.with("+CkB9", "?kB-k1F9", "gk", "+1Dk", "+1Dk", "?kF-k10");
        CHECK.fails("given up", IllegalStateException.class, () -> m.demand(0, 0));
        CHECK.same("C was run to the end", Helper.counts(m), "0 1 0 0 0 1");
        m.demand(4, 0);
        CHECK.same("E was, after a circle of D; D was not", Helper.counts(m), "0 2 0 0 1 3");
        m.drop(4, 0);
        m.drop(3, 0);
        m.drop(2, 0);
        CHECK.same("they count when they are kept no more", Helper.counts(m), "0 2 0 0 1 0");
        m.demand(4, 0);
        CHECK.same("and again", Helper.counts(m), "0 3 0 0 2 2");
    }

    private static void promise10AtTheEdges() {
        CHECK.sentence("Whether a cell is kept.");
        for (int number : new int[] {0, 15, 16, 79, 80, 95}) {
            Memo m = new Memo();
            m.demand(number / 16, number % 16);
            for (int other = 0; other < Helper.CELLS; other++) {
                CHECK.same("kept " + other, m.kept(other / 16, other % 16), other == number);
            }
        }
        CHECK.changesNothing("to look", m -> {
            CHECK.same("a kept cell", m.kept(0, 15), true);
            CHECK.same("another", m.kept(0, 14), false);
        });
    }

    private static void promise10WrongFunction() {
        CHECK.sentence("IllegalArgumentException: f is not 0 .. 5");
        for (int f : NO_FUNCTION) {
            CHECK.refuses("kept(" + f + ", 0)", m -> m.kept(f, 0));
            CHECK.refuses("kept(" + f + ", 15)", m -> m.kept(f, 15));
        }
    }

    private static void promise10WrongKey() {
        CHECK.sentence("or key not 0 .. 15");
        for (int key : NO_KEY) {
            CHECK.refuses("kept(0, " + key + ")", m -> m.kept(0, key));
            CHECK.refuses("kept(5, " + key + ")", m -> m.kept(5, key));
        }
    }

    private static void promise11WrongFunction() {
        CHECK.sentence("IllegalArgumentException: f is not 0 .. 5");
        for (int f : NO_FUNCTION) {
            CHECK.refuses("cell(" + f + ", 0, 0)", m -> m.cell(f, 0, 0));
            CHECK.refuses("cell(" + f + ", 15, 5)", m -> m.cell(f, 15, 5));
        }
    }

    private static void promise11WrongKey() {
        CHECK.sentence("key not 0 .. 15");
        for (int key : NO_KEY) {
            CHECK.refuses("cell(0, " + key + ", 0)", m -> m.cell(0, key, 0));
            CHECK.refuses("cell(5, " + key + ", 5)", m -> m.cell(5, key, 5));
        }
    }

    private static void promise11WrongWhat() {
        CHECK.sentence("or what not 0 .. 5");
        for (int what : new int[] {-1, 6, 7, MIN, MAX}) {
            CHECK.refuses("cell(0, 15, " + what + ")", m -> m.cell(0, 15, what));
        }
        CHECK.changesNothing("to look", m -> {
            CHECK.same("the first what", m.cell(0, 15, 0), -3);
            CHECK.same("the last what", m.cell(0, 15, 5), 2);
        });
    }

    private static void promise11NotKept() {
        CHECK.sentence("NoSuchElementException: it is not kept.");
        for (int what = 0; what <= 5; what++) {
            int asked = what;
            CHECK.refuses("cell(0, 14, " + what + ")", NoSuchElementException.class, m -> m.cell(0, 14, asked));
        }
        Memo m = Helper.with("gk", "Bk");
        m.demand(0, 15);
        m.drop(0, 15);
        CHECK.fails("of a dropped cell", NoSuchElementException.class, () -> m.cell(0, 15, 0));
        m.demand(1, 0);
        m.input(0, 0, 1);
        CHECK.fails("of a cell of a circle after an edit", NoSuchElementException.class, () -> m.cell(1, 0, 0));
        m.demand(0, 15);
        m.bound(1);
        m.demand(0, 14);
        CHECK.fails("of a cell that was one too many", NoSuchElementException.class, () -> m.cell(0, 15, 0));
        m.level(0, 0);
        CHECK.fails("of a cell after level", NoSuchElementException.class, () -> m.cell(0, 14, 0));
        m.demand(0, 14);
        Helper.define(m, 0, "gk");
        CHECK.fails("of a cell after define", NoSuchElementException.class, () -> m.cell(0, 14, 0));
    }

    private static void promise12NumbersOfReads() {
        CHECK.sentence("16 times the table and the key for an input, 100 and the number of the cell for a cell");
        Memo m = Helper.with("+Bk+BkF-k1", "+gkg-k1", "+i0i-01", "0", "0", "C0");
        m.demand(0, 0);
        CHECK.same("A for 0", Helper.cell(m, 0, 0), "0 0 0 0 0: 116 195");
        CHECK.same("B for 0", Helper.cell(m, 1, 0), "0 0 0 0 0: 0 15");
        CHECK.same("F for 15", Helper.cell(m, 5, 15), "0 0 0 0 0: 132");
        CHECK.same("C for 0", Helper.cell(m, 2, 0), "0 0 0 0 0: 32 47");
        Helper.define(m, 0, "k");
        Helper.define(m, 1, "+A0A-01");
        m.demand(1, 0);
        CHECK.same("B for 0", Helper.cell(m, 1, 0), "15 0 0 2 0: 100 115");
    }

    private static void promise12NoSuchRead() {
        CHECK.sentence("NONE when it has no such read");
        Memo m = Helper.with("+g1+g2g3", "7", "+1Ck", "ghighighighighighighighk");
        int[] reads = {3, 0, 0, 4};
        for (int f = 0; f < reads.length; f++) {
            m.demand(f, 15);
            CHECK.same("how many reads", m.cell(f, 15, 5), reads[f]);
            for (int i : new int[] {-1, reads[f], reads[f] + 1, 23, 24, 25, MIN, MAX}) {
                CHECK.same("read(" + f + ", 15, " + i + ")", m.read(f, 15, i), Memo.NONE);
            }
        }
        CHECK.same("the first that it has", m.read(0, 15, 0), 1);
        CHECK.same("the last that it has", m.read(0, 15, 2), 3);
    }

    private static void promise12WrongFunction() {
        CHECK.sentence("IllegalArgumentException: f is not 0 .. 5");
        for (int f : NO_FUNCTION) {
            CHECK.refuses("read(" + f + ", 0, 0)", m -> m.read(f, 0, 0));
            CHECK.refuses("read(" + f + ", 15, 0)", m -> m.read(f, 15, 0));
        }
    }

    private static void promise12WrongKey() {
        CHECK.sentence("or key not 0 .. 15");
        for (int key : NO_KEY) {
            CHECK.refuses("read(0, " + key + ", 0)", m -> m.read(0, key, 0));
            CHECK.refuses("read(5, " + key + ", 0)", m -> m.read(5, key, 0));
        }
    }

    private static void promise12NotKept() {
        CHECK.sentence("NoSuchElementException: it is not kept.");
        for (int i : new int[] {-1, 0, 24, MIN, MAX}) {
            CHECK.refuses("read(0, 14, " + i + ")", NoSuchElementException.class, m -> m.read(0, 14, i));
        }
        Memo m = Helper.with("gk");
        m.demand(0, 15);
        m.drop(0, 15);
        CHECK.fails("of a dropped cell", NoSuchElementException.class, () -> m.read(0, 15, 0));
    }

    private static void promise13FewerAreKept() {
        CHECK.sentence("NONE when fewer are kept");
        Memo m = new Memo();
        CHECK.same("the first of none", m.recent(0), Memo.NONE);
        m.demand(5, 15);
        CHECK.same("the first of one", m.recent(0), 95);
        CHECK.same("the second of one", m.recent(1), Memo.NONE);
        m.demand(0, 0);
        CHECK.same("the second of two", m.recent(1), 0);
        for (int i : new int[] {-1, 2, 95, 96, 97, MIN, MAX}) {
            CHECK.same("recent(" + i + ") of two", m.recent(i), Memo.NONE);
        }
        m.drop(5, 15);
        CHECK.same("the first of one", m.recent(0), 0);
        CHECK.same("the second of one", m.recent(1), Memo.NONE);
        m.level(0, 0);
        CHECK.same("the first of none", m.recent(0), Memo.NONE);
    }

    /** The cells 0 .. 9 are kept, in this order. */
    private static Memo withTen() {
        Memo m = new Memo();
        for (int key = 0; key < 10; key++) {
            m.demand(0, key);
        }
        return m;
    }

    private static void promise14AsManyAsAreKept() {
        CHECK.sentence("How many cells may be kept; those that are too many go at once,"
                + " the first ones in the recent order: how many.");
        CHECK.same("of none", new Memo().bound(1), 0);
        Memo m = withTen();
        CHECK.same("more than are kept", m.bound(11), 0);
        CHECK.same("as many as are kept", m.bound(10), 0);
        CHECK.same("all stay", Helper.recent(m), "0 1 2 3 4 5 6 7 8 9");
    }

    private static void promise14TooMany() {
        CHECK.sentence("How many cells may be kept; those that are too many go at once,"
                + " the first ones in the recent order: how many.");
        Memo m = withTen();
        m.demand(0, 0);
        CHECK.same("one too many", m.bound(9), 1);
        CHECK.same("the first one", Helper.recent(m), "2 3 4 5 6 7 8 9 0");
        CHECK.same("more may be kept again", m.bound(10), 0);
        CHECK.same("it does not come back", Helper.recent(m), "2 3 4 5 6 7 8 9 0");
        CHECK.same("all but one are too many", m.bound(1), 8);
        CHECK.same("the last one stays", Helper.recent(m), "0");
        CHECK.same("the same again", m.bound(1), 0);
    }

    private static void promise14TheMost() {
        CHECK.sentence("IllegalArgumentException: n is not 1 .. 96.");
        Memo m = new Memo();
        m.bound(1);
        CHECK.same("the most", m.bound(96), 0);
        for (int number = 0; number < Helper.CELLS; number++) {
            m.demand(number / 16, number % 16);
        }
        CHECK.same("all are kept", m.count(5), 96);
        CHECK.same("the most again", m.bound(96), 0);
        CHECK.same("one fewer", m.bound(95), 1);
        CHECK.same("the first one went", m.recent(0), 1);
        CHECK.same("the least", m.bound(1), 94);
        CHECK.same("the last one stays", Helper.recent(m), "95");
    }

    private static void promise14AfterGivingUp() {
        CHECK.sentence("those that are too many go at once");
        Memo m = Helper.with("+Ck+D0+EkB9", "?kB-k1F9", "gk", "hk", "Ek", "?kF-k10");
        m.bound(2);
        CHECK.fails("given up", IllegalStateException.class, () -> m.demand(0, 0));
        CHECK.same("more than may be", Helper.recent(m), "32 48 64");
        CHECK.same("as many may be as before", m.bound(2), 1);
        CHECK.same("the first one goes", Helper.recent(m), "48 64");
    }

    private static void promise14WrongBound() {
        CHECK.sentence("IllegalArgumentException: n is not 1 .. 96.");
        for (int n : new int[] {0, -1, 97, 98, MIN, MAX}) {
            CHECK.refuses("bound(" + n + ")", m -> m.bound(n));
        }
    }

    private static void promise15WhetherItWas() {
        CHECK.sentence("A cell is kept no more: whether it was.");
        Memo m = Helper.with("Bk", "gk", "Ck");
        m.demand(0, 15);
        CHECK.same("one that is kept", m.drop(1, 15), true);
        CHECK.same("it is kept no more", m.kept(1, 15), false);
        CHECK.same("once only", m.drop(1, 15), false);
        CHECK.same("the one that read it stays", Helper.state(m),
                "counts 0 2 0 0 0 1; recent 15; 0(15) 0 0 0 0 0: 131");
        m.demand(2, 0);
        CHECK.same("one of a circle", m.drop(2, 0), true);
        CHECK.same("it is kept no more", Helper.recent(m), "15");
        CHECK.same("the only one", m.drop(0, 15), true);
        CHECK.same("none is kept", Helper.state(m), "counts 0 2 0 0 1 0; recent");
        CHECK.changesNothing("drop of a cell that is not kept",
                twin -> CHECK.same("drop", twin.drop(5, 15), false));
    }

    private static void promise15AnyPlaceInTheOrder() {
        CHECK.sentence("A cell is kept no more: whether it was.");
        Memo m = withTen();
        m.drop(0, 0);
        CHECK.same("the first", Helper.recent(m), "1 2 3 4 5 6 7 8 9");
        m.drop(0, 9);
        CHECK.same("the last", Helper.recent(m), "1 2 3 4 5 6 7 8");
        m.drop(0, 5);
        CHECK.same("one in the middle", Helper.recent(m), "1 2 3 4 6 7 8");
        m.demand(0, 9);
        m.demand(0, 5);
        m.demand(0, 0);
        CHECK.same("all again, at the end", Helper.recent(m), "1 2 3 4 6 7 8 9 5 0");
    }

    private static void promise15WrongFunction() {
        CHECK.sentence("IllegalArgumentException: f is not 0 .. 5");
        for (int f : NO_FUNCTION) {
            CHECK.refuses("drop(" + f + ", 0)", m -> m.drop(f, 0));
            CHECK.refuses("drop(" + f + ", 15)", m -> m.drop(f, 15));
        }
    }

    private static void promise15WrongKey() {
        CHECK.sentence("or key not 0 .. 15");
        for (int key : NO_KEY) {
            CHECK.refuses("drop(0, " + key + ")", m -> m.drop(0, key));
            CHECK.refuses("drop(5, " + key + ")", m -> m.drop(5, key));
        }
    }

    private static void theOneNamedFirst() {
        CHECK.sentence("Methods throw what their comments name, the one named first when several would do;"
                + " a call that throws changes nothing, but for what demand() says.");
        CHECK.refuses("cell: not kept, and no function", m -> m.cell(6, 14, 0));
        CHECK.refuses("cell: not kept, and no key", m -> m.cell(0, 16, 0));
        for (int what : new int[] {-1, 6, MIN, MAX}) {
            CHECK.refuses("cell: not kept, and no what", m -> m.cell(0, 14, what));
        }
        CHECK.refuses("read: not kept, and no function", m -> m.read(-1, 14, 0));
        CHECK.refuses("read: not kept, and no key", m -> m.read(0, -1, 0));
        CHECK.refuses("read: no such read, and no key", m -> m.read(0, 16, -1));
    }
}
