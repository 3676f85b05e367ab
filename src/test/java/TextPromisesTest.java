/** Promises 1 to 4 with ordinary inputs: a new object, write, wipe, define; and what texts are worth. */
public final class TextPromisesTest {
    private static final Check CHECK = new Check();

    public static void main(String[] args) {
        promise1NewObject();
        promise2Write();
        promise3Wipe();
        promise4Define();
        promise4DefineKeepsNoCell();
        worthOfTexts();
        CHECK.end();
    }

    private static void promise1NewObject() {
        CHECK.same("a new object", Helper.state(new Memo()), "counts 0 0 0 0 0 0; recent");
        CHECK.same("two objects share nothing", Twins.everything(Twins.make()),
                Twins.everything(Twins.make()));
    }

    private static void promise2Write() {
        Memo m = new Memo();
        CHECK.same("write", m.write(Helper.packed("+1")), 2);
        CHECK.same("write behind it", m.write(Helper.packed("-95")), 5);
        m.define(0);
        CHECK.same("both make one text", m.demand(0, 0), 5);
    }

    private static void promise3Wipe() {
        Memo m = new Memo();
        Helper.write(m, "+1");
        CHECK.same("wipe", m.wipe(), 2);
        CHECK.same("write after wipe", m.write('7'), 1);
        m.define(0);
        CHECK.same("text after wipe", m.demand(0, 0), 7);
    }

    private static void promise4Define() {
        Memo m = new Memo();
        Helper.write(m, "*kk");
        CHECK.same("define", m.define(5), Memo.NONE);
        CHECK.same("the draft is empty", m.wipe(), 0);
        CHECK.same("the text of function 5", m.demand(5, 15), 225);
        CHECK.same("the text of function 4", m.demand(4, 15), 0);
        CHECK.same("no text", Helper.define(m, 5, "*k/"), 2);
        CHECK.same("the text of function 5 stays", m.demand(5, 14), 196);
    }

    private static void promise4DefineKeepsNoCell() {
        Memo m = Helper.with("gk", "A1");
        m.input(0, 1, 6);
        m.demand(1, 0);
        CHECK.same("define", Helper.define(m, 5, "k"), Memo.NONE);
        CHECK.same("state after define", Helper.state(m), "counts 1 2 0 0 0 0; recent");
        CHECK.same("demand after define", m.demand(1, 0), 6);
        CHECK.same("it was run anew", Helper.counts(m), "1 4 0 0 0 2");
    }

    private static void worthOfTexts() {
        String[] texts = {"9", "k", "+k1", "-1k", "*kk", "?012", "?k12", "?-kk34", "-?1234", "*+12-19",
            "gk", "hk", "ik", "g+k8", "g-0k", "-gkhk", "**ikikik", "?0g1i1", "Bk", "B*kk", "+?1B1B2B3"};
        int[] worths = {9, 5, 6, -4, 25, 2, 1, 4, -2, -24,
            105, 205, 70_005, 113, 111, -100, (int) (70_005L * 70_005L * 70_005L), 70_001, 10, 18, 8};
        for (int i = 0; i < texts.length; i++) {
            Memo m = Helper.with(texts[i], "+kk");
            for (int key = 0; key < Helper.KEYS; key++) {
                m.input(0, key, 100 + key);
                m.input(1, key, 200 + key);
                m.input(2, key, 70_000 + key);
            }
            CHECK.same(texts[i] + " for 5", m.demand(0, 5), worths[i]);
        }
    }
}
