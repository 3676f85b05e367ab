/** Promises 1 to 7: each sentence that names a boundary case, with a test of its own. */
public final class Promises1To7EdgesTest {
    private static final Check CHECK = new Check();
    private static final int MIN = Integer.MIN_VALUE;
    private static final int MAX = Integer.MAX_VALUE;
    private static final int[] NO_TABLE = {-1, 3, 4, MIN, MAX};
    private static final int[] NO_CLASS = {-1, 3, 4, MIN, MAX};
    private static final int[] NO_FUNCTION = {-1, 6, 7, MIN, MAX};
    private static final int[] NO_KEY = {-1, 16, 17, 32, MIN, MAX};

    public static void main(String[] args) {
        promise1NothingIsKept();
        promise1UpTo96Cells();
        promise2LowestByteFirst();
        promise2BytesZeroLeftOut();
        promise2BytesAbove127();
        promise2UpTo24();
        promise2MoreThan24();
        promise3EmptyDraft();
        promise3FullDraft();
        promise4DraftIsEmptyThen();
        promise4NoCellIsKept();
        promise4FirstCharacterThatCannotStandThere();
        promise4EndsTooEarly();
        promise4NothingChanges();
        promise4WrongFunction();
        promise5WhetherAnEdit();
        promise5WrongTable();
        promise5WrongKey();
        promise6WhetherAnEdit();
        promise6WrongFunction();
        promise7NoCellIsKept();
        promise7WrongTable();
        promise7WrongClass();
        CHECK.end();
    }

    private static void promise1NothingIsKept() {
        CHECK.sentence("All as said at first; nothing is kept");
        Memo m = new Memo();
        for (int number = 0; number < Helper.CELLS; number++) {
            CHECK.same("kept " + number, m.kept(number / 16, number % 16), false);
            CHECK.same("recent " + number, m.recent(number), Memo.NONE);
        }
        CHECK.same("counts", Helper.counts(m), "0 0 0 0 0 0");
        CHECK.same("the draft is empty", m.wipe(), 0);
    }

    private static void promise1UpTo96Cells() {
        CHECK.sentence("up to 96 cells may be");
        Memo m = new Memo();
        for (int number = 0; number < Helper.CELLS; number++) {
            m.demand(number / 16, number % 16);
            CHECK.same("kept then", m.count(5), number + 1);
        }
        for (int number = 0; number < Helper.CELLS; number++) {
            CHECK.same("kept " + number, m.kept(number / 16, number % 16), true);
            CHECK.same("recent " + number, m.recent(number), number);
        }
        CHECK.same("no more than there are", m.recent(96), Memo.NONE);
    }

    private static void promise2LowestByteFirst() {
        CHECK.sentence("The characters in the eight bytes of a long, the lowest first, come behind the draft");
        Memo m = new Memo();
        CHECK.same("-*98?0k3", m.write(0x336B_303F_3839_2A2DL), 8);
        CHECK.same("define", m.define(0), Memo.NONE);
        CHECK.same("9 times 8, less 3", m.demand(0, 0), 69);
        CHECK.same("-9", m.write(0x392DL), 2);
        CHECK.same("5 in the highest byte, behind it", m.write(0x3500_0000_0000_0000L), 3);
        CHECK.same("define", m.define(0), Memo.NONE);
        CHECK.same("9 less 5", m.demand(0, 0), 4);
    }

    private static void promise2BytesZeroLeftOut() {
        CHECK.sentence("bytes 0 left out");
        Memo m = new Memo();
        CHECK.same("nothing but bytes 0", m.write(0), 0);
        CHECK.same("before, between and behind", m.write(0x0035_0000_3900_2D00L), 3);
        CHECK.same("nothing but bytes 0", m.write(0), 3);
        m.define(0);
        CHECK.same("9 less 5", m.demand(0, 0), 4);
        for (int i = 0; i < 8; i++) {
            CHECK.same("one byte, at place " + i, m.write((long) '7' << 8 * i), i + 1);
        }
    }

    private static void promise2BytesAbove127() {
        CHECK.sentence("The characters in the eight bytes of a long");
        Memo m = new Memo();
        CHECK.same("eight bytes 255", m.write(-1), 8);
        CHECK.same("eight bytes 128", m.write(0x8080_8080_8080_8080L), 16);
        CHECK.same("the highest byte alone", m.write(Long.MIN_VALUE), 17);
        CHECK.same("a digit with the highest bit is none", Helper.define(m, 0, "\u00b0"), 0);
        CHECK.same("a + with the highest bit is none", Helper.define(m, 0, "\u00ab12"), 0);
    }

    private static void promise2UpTo24() {
        CHECK.sentence("NONE, adding none, when there would be more than 24");
        Memo m = new Memo();
        CHECK.same("8", m.write(-1), 8);
        CHECK.same("16", m.write(-1), 16);
        CHECK.same("23", m.write(-1L >>> 8), 23);
        CHECK.same("24", m.write('k'), 24);
        CHECK.same("24 and none", m.write(0), 24);
        Memo other = new Memo();
        other.write(-1);
        other.write(-1);
        CHECK.same("24 at once", other.write(-1), 24);
    }

    private static void promise2MoreThan24() {
        CHECK.sentence("NONE, adding none, when there would be more than 24");
        Memo m = new Memo();
        Helper.write(m, "+++++++++++111111");
        CHECK.same("17 and 8", m.write(Helper.packed("22222222")), Memo.NONE);
        CHECK.same("17 still", m.write(0), 17);
        CHECK.same("17 and 6", m.write(Helper.packed("111111")), 23);
        CHECK.same("23 and 2", m.write(Helper.packed("11")), Memo.NONE);
        CHECK.same("the text is as it was", m.define(0), Memo.NONE);
        CHECK.same("its worth", m.demand(0, 0), 12);
        Memo full = new Memo();
        Helper.write(full, "g+++++++++++111111111111");
        CHECK.same("24 and 1", full.write('1'), Memo.NONE);
        CHECK.same("24 and 1 in the highest byte", full.write(Long.MIN_VALUE), Memo.NONE);
        CHECK.same("24 and 8", full.write(-1), Memo.NONE);
        CHECK.same("24 still", full.write(0), 24);
        CHECK.same("the text is as it was", full.define(0), Memo.NONE);
        CHECK.changesNothing("a write of too many", twin -> {
            CHECK.same("2 and 22", Helper.write(twin, "kkkkkkkkkkkkkkkkkkkkkk"), 24);
            CHECK.same("24 and 1", twin.write('1'), Memo.NONE);
            twin.wipe();
            Helper.write(twin, "+k");
        });
    }

    private static void promise3EmptyDraft() {
        CHECK.sentence("The draft is empty then. Answers how many characters it had.");
        Memo m = new Memo();
        CHECK.same("of a new object", m.wipe(), 0);
        m.write('1');
        CHECK.same("of one character", m.wipe(), 1);
        CHECK.same("of none", m.wipe(), 0);
        CHECK.same("define of an empty draft", m.define(0), 0);
        CHECK.changesNothing("wipe, and the same draft again", twin -> {
            CHECK.same("of two characters", twin.wipe(), 2);
            Helper.write(twin, "+k");
        });
    }

    private static void promise3FullDraft() {
        CHECK.sentence("The draft is empty then. Answers how many characters it had.");
        Memo m = new Memo();
        Helper.write(m, "111111111111111111111111");
        CHECK.same("of a full draft", m.wipe(), 24);
        CHECK.same("there is room again", Helper.write(m, "g+++++++++++111111111111"), 24);
        CHECK.same("nothing is left of it", m.define(0), Memo.NONE);
    }

    private static void promise4DraftIsEmptyThen() {
        CHECK.sentence("The draft becomes the text of a function: NONE, the draft is empty");
        for (int f = 0; f < Helper.FUNCTIONS; f++) {
            Memo m = new Memo();
            Helper.write(m, "-9k");
            CHECK.same("define", m.define(f), Memo.NONE);
            CHECK.same("the draft has no character", m.write(0), 0);
            for (int other = 0; other < Helper.FUNCTIONS; other++) {
                CHECK.same("only one function has it", m.demand(other, 2), other == f ? 7 : 0);
            }
            Helper.write(m, "5");
            CHECK.same("a shorter text", m.define(f), Memo.NONE);
            CHECK.same("nothing is left of the longer one", m.demand(f, 2), 5);
        }
    }

    private static void promise4NoCellIsKept() {
        CHECK.sentence("and no cell is kept any more (the revision stays)");
        Memo m = Helper.with("gk", "A1", "Ck");
        m.input(0, 1, 6);
        m.demand(1, 0);
        m.demand(2, 0);
        CHECK.same("the text that it had already, of a function that no cell asks for",
                Helper.define(m, 5, "0"), Memo.NONE);
        CHECK.same("state", Helper.state(m), "counts 1 2 0 0 1 0; recent");
        CHECK.same("kept", m.kept(1, 0), false);
        CHECK.same("inputs stay", m.demand(1, 0), 6);
    }

    private static void promise4FirstCharacterThatCannotStandThere() {
        CHECK.sentence("If it is no text: the place of the first character that cannot stand there");
        String[] drafts = {"x", "+x1", "+1x", "12", "+123", "gk0", "?1111", "k+", "0x", "xx", "++1x?",
            "+11+", "g+++++++++++1111111111x1", "+++++++++++1111111111112", "011111111111111111111111"};
        int[] places = {0, 1, 2, 1, 3, 2, 4, 1, 1, 0, 3,
            3, 22, 23, 1};
        for (int i = 0; i < drafts.length; i++) {
            CHECK.same("define of " + drafts[i], Helper.define(new Memo(), 0, drafts[i]), places[i]);
        }
    }

    private static void promise4EndsTooEarly() {
        CHECK.sentence("the number of characters if it ends too early");
        String[] drafts = {"", "+", "+1", "?", "?1", "?11", "g", "A", "++11", "gggggggggggggggggggggggg",
            "????????1111111111111111", "g+++++++++++11111111111"};
        for (String draft : drafts) {
            CHECK.same("define of " + draft, Helper.define(new Memo(), 0, draft), draft.length());
        }
    }

    private static void promise4NothingChanges() {
        CHECK.sentence("and nothing changes");
        CHECK.changesNothing("define of what ends too early", m -> CHECK.same("define", m.define(5), 2));
        CHECK.changesNothing("define of what cannot stand there", m -> {
            m.write('x');
            CHECK.same("define", m.define(5), 2);
            CHECK.same("the draft stays", m.wipe(), 3);
            Helper.write(m, "+k");
        });
        CHECK.changesNothing("define of nothing", m -> {
            m.wipe();
            CHECK.same("define", m.define(0), 0);
            Helper.write(m, "+k");
        });
        Memo m = Helper.with("5");
        Helper.write(m, "+1");
        m.define(0);
        CHECK.same("more can come behind the draft", m.write('2'), 3);
        CHECK.same("then it is a text", m.define(0), Memo.NONE);
        CHECK.same("its worth", m.demand(0, 0), 3);
    }

    private static void promise4WrongFunction() {
        CHECK.sentence("IllegalArgumentException: f is not 0 .. 5.");
        for (int f : NO_FUNCTION) {
            CHECK.refuses("define(" + f + ") of no text", m -> m.define(f));
            CHECK.changesNothing("define(" + f + ") of a text", m -> {
                m.write('1');
                CHECK.fails("define(" + f + ")", IllegalArgumentException.class, () -> m.define(f));
                CHECK.same("the draft stays", m.wipe(), 3);
                Helper.write(m, "+k");
            });
        }
    }

    private static void promise5WhetherAnEdit() {
        CHECK.sentence("The input of a table with a key gets a value: whether that was an edit.");
        Memo m = new Memo();
        for (int number = 0; number < 48; number++) {
            CHECK.same("0 at first", m.input(number / 16, number % 16, 0), false);
            CHECK.same("another value", m.input(number / 16, number % 16, MIN), true);
            CHECK.same("the same value", m.input(number / 16, number % 16, MIN), false);
            CHECK.same("0 again", m.input(number / 16, number % 16, 0), true);
        }
        CHECK.changesNothing("inputs that are no edits", twin -> {
            CHECK.same("the value that it had", twin.input(0, 15, -1), false);
            CHECK.same("the value that it had", twin.input(1, 15, -2), false);
            CHECK.same("the value that it had", twin.input(2, 2, 5), false);
        });
    }

    private static void promise5WrongTable() {
        CHECK.sentence("IllegalArgumentException: table is not 0 .. 2");
        for (int table : NO_TABLE) {
            CHECK.refuses("input(" + table + ", 0, 5)", m -> m.input(table, 0, 5));
            CHECK.refuses("input(" + table + ", 15, 0)", m -> m.input(table, 15, 0));
        }
    }

    private static void promise5WrongKey() {
        CHECK.sentence("or key not 0 .. 15");
        for (int key : NO_KEY) {
            CHECK.refuses("input(0, " + key + ", 5)", m -> m.input(0, key, 5));
            CHECK.refuses("input(2, " + key + ", 0)", m -> m.input(2, key, 0));
        }
    }

    private static void promise6WhetherAnEdit() {
        CHECK.sentence("The circle value of a function: whether that was an edit.");
        Memo m = new Memo();
        for (int f = 0; f < Helper.FUNCTIONS; f++) {
            CHECK.same("0 at first", m.circle(f, 0), false);
            CHECK.same("another value", m.circle(f, MAX), true);
            CHECK.same("the same value", m.circle(f, MAX), false);
            CHECK.same("0 again", m.circle(f, 0), true);
        }
        CHECK.changesNothing("a circle value that is no edit",
                twin -> CHECK.same("the value that it had", twin.circle(5, 55), false));
    }

    private static void promise6WrongFunction() {
        CHECK.sentence("IllegalArgumentException: f is not 0 .. 5.");
        for (int f : NO_FUNCTION) {
            CHECK.refuses("circle(" + f + ", 5)", m -> m.circle(f, 5));
            CHECK.refuses("circle(" + f + ", 0)", m -> m.circle(f, 0));
        }
    }

    private static void promise7NoCellIsKept() {
        CHECK.sentence("A table gets a class; no cell is kept any more.");
        for (int table = 0; table < Helper.TABLES; table++) {
            for (int c = 0; c <= 2; c++) {
                Memo m = Helper.with("7", "Bk", "gk");
                m.demand(0, 0);
                m.demand(1, 0);
                m.demand(2, 0);
                m.level(table, c);
                CHECK.same("state after level(" + table + ", " + c + ")", Helper.state(m),
                        "counts 0 2 0 0 1 0; recent");
            }
        }
    }

    private static void promise7WrongTable() {
        CHECK.sentence("IllegalArgumentException: table is not 0 .. 2");
        for (int table : NO_TABLE) {
            CHECK.refuses("level(" + table + ", 0)", m -> m.level(table, 0));
            CHECK.refuses("level(" + table + ", 2)", m -> m.level(table, 2));
        }
    }

    private static void promise7WrongClass() {
        CHECK.sentence("or c not 0 .. 2");
        for (int c : NO_CLASS) {
            CHECK.refuses("level(0, " + c + ")", m -> m.level(0, c));
            CHECK.refuses("level(2, " + c + ")", m -> m.level(2, c));
        }
    }
}
