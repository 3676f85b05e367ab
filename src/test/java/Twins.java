/** Objects with something in every part of their state, and all that can be found out of one. */
final class Twins {
    private static final String NAMES = "ABCDEF";
    private static final String[] INPUTS = {"gk", "hk", "ik"};
    private static final int KEY = 4;

    private Twins() {
    }

    /** Always the same: texts, classes, inputs, circle values, a bound, cells (some of a circle), a draft. */
    static Memo make() {
        Memo m = Helper.with("+gkBk", "hk", "Dk", "Ck", "?ikF0k", "7");
        m.level(0, 1);
        m.level(1, 2);
        for (int table = 0; table < Helper.TABLES; table++) {
            m.input(table, 0, 100 + table);
            m.input(table, KEY, 10 * (table + 1));
            m.input(table, 15, -table - 1);
        }
        for (int f = 0; f < Helper.FUNCTIONS; f++) {
            m.circle(f, f + 50);
        }
        m.bound(9);
        m.demand(0, 3);
        m.demand(4, 2);
        m.demand(0, 15);
        m.input(2, 2, 5);
        m.demand(4, 2);
        m.demand(2, 1);
        Helper.write(m, "+k");
        return m;
    }

    /** Nothing else can be asked of the object afterwards: to look at hidden parts changes it. */
    static String everything(Memo m) {
        StringBuilder shown = new StringBuilder(Helper.state(m));
        showWhatIsRenewed(m, shown.append("; renewed"));
        showTexts(m, shown.append("; texts"));
        showDraft(m, shown.append("; draft"));
        showCircleValues(m, shown.append("; circle values"));
        showInputs(m, shown.append("; inputs"));
        return shown.append("; at most ").append(m.count(5)).toString();
    }

    /** When inputs changed and which classes were edited shows in what is run, verified and skipped. */
    private static void showWhatIsRenewed(Memo m, StringBuilder shown) {
        shown.append(' ').append(m.demand(0, 3)).append(' ').append(Helper.counts(m));
        m.input(1, 9, 1);
        shown.append(", ").append(m.demand(0, 15)).append(' ').append(m.demand(4, 2));
        shown.append(' ').append(Helper.counts(m));
    }

    private static void showTexts(Memo m, StringBuilder shown) {
        for (int f = 0; f < Helper.FUNCTIONS; f++) {
            int asked = f;
            shown.append(' ').append(Helper.answer(() -> m.demand(asked, KEY)));
            shown.append('/').append(Helper.answer(() -> m.cell(asked, KEY, 5)));
        }
    }

    private static void showDraft(Memo m, StringBuilder shown) {
        shown.append(' ').append(m.write('3')).append(' ').append(m.define(5));
        shown.append(' ').append(Helper.answer(() -> m.demand(5, KEY))).append(' ').append(m.wipe());
    }

    private static void showCircleValues(Memo m, StringBuilder shown) {
        for (int f = 0; f < Helper.FUNCTIONS; f++) {
            Helper.define(m, f, NAMES.charAt(f) + "k");
            shown.append(' ').append(m.demand(f, 0));
        }
    }

    private static void showInputs(Memo m, StringBuilder shown) {
        for (int table = 0; table < Helper.TABLES; table++) {
            Helper.define(m, table, INPUTS[table]);
            for (int key = 0; key < Helper.KEYS; key++) {
                shown.append(' ').append(m.demand(table, key));
            }
            shown.append(" of class ").append(m.cell(table, 15, 3));
        }
    }
}
