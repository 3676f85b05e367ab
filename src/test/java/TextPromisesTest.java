/** Promises 1 to 4: a new object, write, wipe, define; and what each form of text is worth. */
public final class TextPromisesTest {
    private static final Check CHECK = new Check();

    public static void main(String[] args) {
        promise1NewObject();
        promise2Write();
        promise3Wipe();
        promise4Define();
        promise4DefineRefusesWhatIsNoText();
        promise4DefineKeepsNoCell();
        promise4DefineWrongFunction();
        worthOfTexts();
        CHECK.end();
    }

    private static void promise1NewObject() {
        MemoRuntime m = new MemoRuntime();
        CHECK.same("counts of a new object", Helper.counts(m), "0 0 0 0 0 0");
        CHECK.same("recent of a new object", m.recent(0), MemoRuntime.NONE);
        CHECK.same("draft of a new object", m.wipe(), 0);
        for (int f = 0; f < Helper.FUNCTIONS; f++) {
            CHECK.same("circle value of a new object", m.circle(f, 0), false);
            for (int key = 0; key < Helper.KEYS; key++) {
                CHECK.same("kept in a new object", m.kept(f, key), false);
                CHECK.same("worth of a new function", m.demand(f, key), 0);
                CHECK.same("cell of a new function", Helper.cell(m, f, key), "0 0 0 2 0:");
            }
        }
        CHECK.same("up to 96 cells may be kept", m.count(5), 96);
        for (int table = 0; table < 3; table++) {
            for (int key = 0; key < Helper.KEYS; key++) {
                CHECK.same("input of a new object", m.input(table, key, 0), false);
            }
        }
        MemoRuntime reader = Helper.with("gk", "hk", "ik");
        for (int f = 0; f < 3; f++) {
            reader.demand(f, 4);
            CHECK.same("class of a new table", reader.cell(f, 4, 3), 0);
        }
    }

    private static void promise2Write() {
        MemoRuntime m = new MemoRuntime();
        CHECK.same("write of no characters", m.write(0), 0);
        CHECK.same("the lowest byte first", m.write(Helper.packed("-95")), 3);
        m.define(0);
        CHECK.same("the lowest byte first", m.demand(0, 0), 4);

        CHECK.same("bytes 0 left out", m.write(0x3500_0039_0000_2D00L), 3);
        m.define(0);
        CHECK.same("bytes 0 left out", m.demand(0, 0), 4);

        CHECK.same("eight characters", m.write(-1), 8);
        CHECK.same("behind the draft", m.write(0xFF00_0000_0000_0000L), 9);
        m.write(-1);
        CHECK.same("23 characters", m.write(0x00FF_FFFF_FFFF_FF00L >>> 8), 23);
        CHECK.same("25 characters", m.write(0x0101), MemoRuntime.NONE);
        CHECK.same("none is added", m.write(0), 23);
        CHECK.same("24 characters", m.write(0x8000_0000_0000_0000L), 24);
        CHECK.same("25 characters", m.write(1), MemoRuntime.NONE);
        CHECK.same("none added to a full draft", m.write(0), 24);

        MemoRuntime other = new MemoRuntime();
        Helper.write(other, "+1");
        other.write(Helper.packed("2"));
        other.define(0);
        CHECK.same("two writes make one text", other.demand(0, 0), 3);
    }

    private static void promise3Wipe() {
        MemoRuntime m = new MemoRuntime();
        CHECK.same("wipe of an empty draft", m.wipe(), 0);
        Helper.write(m, "+1");
        CHECK.same("wipe", m.wipe(), 2);
        CHECK.same("wipe again", m.wipe(), 0);
        CHECK.same("write after wipe", m.write('7'), 1);
        m.define(0);
        CHECK.same("text after wipe", m.demand(0, 0), 7);
        CHECK.same("wipe after define", m.wipe(), 0);
    }

    private static void promise4Define() {
        MemoRuntime m = new MemoRuntime();
        Helper.write(m, "*kk");
        CHECK.same("define", m.define(5), MemoRuntime.NONE);
        CHECK.same("the draft is empty", m.wipe(), 0);
        CHECK.same("the text of function 5", m.demand(5, 15), 225);
        CHECK.same("the text of function 4", m.demand(4, 15), 0);
        CHECK.same("24 characters too few", Helper.define(m, 0, "????????" + "1".repeat(16)), 24);
        CHECK.same("one character too many", Helper.define(m, 0, "g??????" + "k".repeat(13) + "0"), 20);
        CHECK.same("a text of 24 characters", Helper.define(m, 0, "+???????" + "1".repeat(16)),
                MemoRuntime.NONE);
        CHECK.same("its worth", m.demand(0, 0), 2);
    }

    private static void promise4DefineRefusesWhatIsNoText() {
        String[] drafts = {"", "+", "+1", "12", "+1x", "x", "?11", "?1111", "g", "kk", "A", "+1+2",
            "G0", "j0", "f0", "a0", "@0", "/12", "(1)", ":", "K", "g0g", "-1-", "1 ", "\u00ff"};
        int[] places = {0, 1, 2, 1, 2, 0, 3, 4, 1, 1, 1, 4,
            0, 0, 0, 0, 0, 0, 0, 0, 0, 2, 3, 1, 0};
        for (int i = 0; i < drafts.length; i++) {
            MemoRuntime m = Helper.with("5");
            m.demand(0, 3);
            String before = Helper.state(m);
            CHECK.same("define of \"" + drafts[i] + "\"", Helper.define(m, 0, drafts[i]), places[i]);
            CHECK.same("state after it", Helper.state(m), before);
            CHECK.same("draft after it", m.wipe(), drafts[i].length());
            CHECK.same("text after it", m.demand(0, 4), 5);
        }
    }

    private static void promise4DefineKeepsNoCell() {
        MemoRuntime m = Helper.with("gk", "A1");
        m.input(0, 1, 6);
        m.demand(1, 0);
        m.bound(7);
        CHECK.same("define", Helper.define(m, 5, "k"), MemoRuntime.NONE);
        CHECK.same("state after define", Helper.state(m), "counts 1 2 0 0 0 0; recent ");
        CHECK.same("demand after define", m.demand(1, 0), 6);
        CHECK.same("it was run anew", Helper.counts(m), "1 4 0 0 0 2");
    }

    private static void promise4DefineWrongFunction() {
        MemoRuntime m = Helper.with("5");
        m.demand(0, 3);
        Helper.write(m, "k");
        for (int f : new int[] {-1, 6, Integer.MIN_VALUE, Integer.MAX_VALUE}) {
            CHECK.refuses("define(" + f + ")", m, () -> m.define(f));
        }
        CHECK.same("the draft stays", m.wipe(), 1);
        Helper.write(m, "+");
        CHECK.refuses("define(6) of no text", m, () -> m.define(6));
    }

    private static void worthOfTexts() {
        String[] texts = {"9", "k", "+k1", "-1k", "*kk", "?012", "?k12", "?-kk34", "-?1234", "*+12-19",
            "gk", "hk", "ik", "g+k8", "g-0k", "-gkhk", "**ikikik", "?0g1i1", "Bk", "B*kk", "+?1B1B2B3"};
        int[] worths = {9, 5, 6, -4, 25, 2, 1, 4, -2, -24,
            105, 205, 70_005, 113, 111, -100, (int) (70_005L * 70_005L * 70_005L), 70_001, 10, 18, 8};
        for (int i = 0; i < texts.length; i++) {
            MemoRuntime m = Helper.with(texts[i], "+kk");
            for (int key = 0; key < Helper.KEYS; key++) {
                m.input(0, key, 100 + key);
                m.input(1, key, 200 + key);
                m.input(2, key, 70_000 + key);
            }
            CHECK.same(texts[i] + " for 5", m.demand(0, 5), worths[i]);
        }
        MemoRuntime m = Helper.with("ggk", "-g01", "+g0g0");
        m.input(0, 0, Integer.MIN_VALUE);
        m.input(0, 1, -1);
        m.input(0, 15, 33);
        CHECK.same("the four lowest bits of -1", m.demand(0, 1), 33);
        CHECK.same("the least int less 1", m.demand(1, 0), Integer.MAX_VALUE);
        CHECK.same("twice the least int", m.demand(2, 0), 0);
    }
}
