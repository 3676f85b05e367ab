/** 'Terms' on texts and what they are worth: each sentence that names a boundary case, with a test of its own. */
public final class TextEdgesTest {
    private static final Check CHECK = new Check();
    private static final int MIN = Integer.MIN_VALUE;
    private static final int MAX = Integer.MAX_VALUE;
    private static final String FUNCTIONS = "ABCDEF";
    private static final String TABLES = "ghi";
    private static final int[] KEYS_BEYOND = {0, 15, 16, 17, 31, 32, -1, -15, -16, -17, 256, MIN, MAX, MIN + 1};

    public static void main(String[] args) {
        textsOf24Characters();
        textsOfOneCharacter();
        nothingElse();
        charactersThatBeginAnExpression();
        charactersInsideAnExpression();
        digits();
        theKey();
        theLeftOneFirst();
        bothAreWorkedOut();
        notZeroIsTheSecond();
        zeroIsTheThird();
        onlyThatOneIsWorkedOut();
        choicesInsideChoices();
        keysOfInputsModulo16();
        keysOfCellsModulo16();
        CHECK.end();
    }

    private static void textsOf24Characters() {
        CHECK.sentence("A TEXT is one EXPRESSION of up to 24 characters, nothing else");
        text24("ggggggggggggggggggggggg9", 16);
        text24("g+++++++++++111111111111", 13);
        text24("g+1+1+1+1+1+1+1+1+1+1+11", 13);
        text24("gg???????111111111111111", 3);
        text24("-9?1?1?1?1?1?1?170000000", 2);
        text24("-9?01?01?01?01?01?01?017", 2);
        text24("+?0gkhk-*9k?1+2*34+g5gg0", 22);
        CHECK.same("23 characters are no less a text",
                Helper.define(new Memo(), 0, "+++++++++++111111111111"), Memo.NONE);
    }

    /** Each input of table 0 is worth its key and 1. */
    private static void text24(String text, int due) {
        Memo m = new Memo();
        for (int key = 0; key < Helper.KEYS; key++) {
            m.input(0, key, key + 1);
        }
        CHECK.same("characters of " + text, Helper.write(m, text), 24);
        CHECK.same("define of " + text, m.define(0), Memo.NONE);
        CHECK.same("worth of " + text, m.demand(0, 4), due);
    }

    private static void textsOfOneCharacter() {
        CHECK.sentence("a digit 0 .. 9: that number. k: the key.");
        String characters = "0123456789k";
        for (int i = 0; i < characters.length(); i++) {
            Memo m = Helper.with(characters.substring(i, i + 1));
            CHECK.same("worth of " + characters.charAt(i), m.demand(0, 10), i);
            CHECK.same("its cell", Helper.cell(m, 0, 10), i + " 0 0 2 0:");
        }
    }

    private static void nothingElse() {
        CHECK.sentence("A TEXT is one EXPRESSION of up to 24 characters, nothing else");
        CHECK.same("no character", Helper.define(new Memo(), 0, ""), 0);
        String[] expressions = {"1", "k", "gk", "A0", "+12", "?012", "-gkAk"};
        for (String expression : expressions) {
            CHECK.same("one: " + expression, Helper.define(new Memo(), 0, expression), Memo.NONE);
            for (String other : expressions) {
                CHECK.same("two: " + expression + other,
                        Helper.define(new Memo(), 0, expression + other), expression.length());
            }
        }
    }

    private static void charactersThatBeginAnExpression() {
        CHECK.sentence("the place of the first character that cannot stand there,"
                + " the number of characters if it ends too early");
        for (char c = 1; c <= 255; c++) {
            int due = isWhole(c) ? Memo.NONE : isOperator(c) ? 1 : 0;
            CHECK.same("define of character " + (int) c, Helper.define(new Memo(), 0, "" + c), due);
        }
    }

    private static void charactersInsideAnExpression() {
        CHECK.sentence("the place of the first character that cannot stand there,"
                + " the number of characters if it ends too early");
        for (char c = 1; c <= 255; c++) {
            Memo m = new Memo();
            boolean begins = isWhole(c) || isOperator(c);
            CHECK.same("behind +: " + (int) c, Helper.define(m, 0, "+" + c), begins ? 2 : 1);
            CHECK.same("behind +k: " + (int) c, Helper.define(m, 0, "+k" + c),
                    isWhole(c) ? Memo.NONE : isOperator(c) ? 3 : 2);
            CHECK.same("behind ?1+: " + (int) c, Helper.define(m, 0, "?1+" + c), begins ? 4 : 3);
            CHECK.same("behind g: " + (int) c, Helper.define(m, 0, "g" + c),
                    isWhole(c) ? Memo.NONE : isOperator(c) ? 2 : 1);
            CHECK.same("behind the end: " + (int) c, Helper.define(m, 0, "+12" + c), 3);
        }
    }

    private static boolean isWhole(char c) {
        return "0123456789k".indexOf(c) >= 0;
    }

    private static boolean isOperator(char c) {
        return "+-*?ghiABCDEF".indexOf(c) >= 0;
    }

    private static void digits() {
        CHECK.sentence("a digit 0 .. 9: that number.");
        for (int digit = 0; digit <= 9; digit++) {
            CHECK.same("a digit as a part", Helper.with("-" + digit + "9").demand(0, 15), digit - 9);
        }
    }

    private static void theKey() {
        CHECK.sentence("k: the key.");
        Memo m = Helper.with("*kk", "Ak", "A-0k");
        for (int key = 0; key < Helper.KEYS; key++) {
            int opposite = (16 - key) % 16;
            CHECK.same("the key demanded", m.demand(0, key), key * key);
            CHECK.same("the key asked for", m.demand(1, key), key * key);
            CHECK.same("the key that was worked out", m.demand(2, key), opposite * opposite);
        }
    }

    private static void theLeftOneFirst() {
        CHECK.sentence("what the expressions are worth together, the left one being worked out first");
        for (String operator : new String[] {"+", "-", "*"}) {
            Memo m = Helper.with(operator + "*hkik*gkhk");
            m.demand(0, 5);
            CHECK.same("reads by " + operator, Helper.cell(m, 0, 5), "0 0 0 0 0: 21 37 5");
            Memo cells = Helper.with(operator + "CkBk", "gk", "hk");
            cells.demand(0, 0);
            CHECK.same("cells by " + operator, Helper.recent(cells), "32 16 0");
        }
        CHECK.same("9 less 5", Helper.with("-95").demand(0, 0), 4);
        CHECK.same("9 less 5, less 1", Helper.with("--951").demand(0, 0), 3);
        CHECK.same("9 less (5 less 1)", Helper.with("-9-51").demand(0, 0), 5);
    }

    private static void bothAreWorkedOut() {
        CHECK.sentence("+ E E, - E E, * E E: what the expressions are worth together");
        Memo m = Helper.with("*0Bk", "gk", "*Bk0");
        m.demand(0, 0);
        CHECK.same("the right one, although the left one is 0", Helper.cell(m, 0, 0), "0 0 0 0 0: 116");
        m.demand(2, 0);
        CHECK.same("the left one, although the right one is 0", Helper.cell(m, 2, 0), "0 0 0 0 0: 116");
    }

    private static void notZeroIsTheSecond() {
        CHECK.sentence("? E E E: if the first is not 0, the second");
        Memo m = Helper.with("?gk23");
        for (int v : new int[] {1, -1, MIN, MAX, 256, 65_536, 16}) {
            m.input(0, 0, v);
            CHECK.same("by " + v, m.demand(0, 0), 2);
        }
    }

    private static void zeroIsTheThird() {
        CHECK.sentence("else the third");
        CHECK.same("by 0", Helper.with("?023").demand(0, 0), 3);
        CHECK.same("by the key 0", Helper.with("?k23").demand(0, 0), 3);
        CHECK.same("by an input at first", Helper.with("?h023").demand(0, 0), 3);
        Memo m = Helper.with("?*gkgk23");
        m.input(0, 0, 65_536);
        CHECK.same("by 0 after a wrap-around", m.demand(0, 0), 3);
    }

    private static void onlyThatOneIsWorkedOut() {
        CHECK.sentence("(only that one is worked out)");
        Memo m = Helper.with("?gkB1C1", "h0", "i0");
        m.demand(0, 0);
        CHECK.same("the third", Helper.cell(m, 0, 0), "0 0 0 0 0: 0 133");
        CHECK.same("the second was not asked for", m.kept(1, 1), false);
        m.input(0, 0, -1);
        m.demand(0, 0);
        CHECK.same("the second", Helper.cell(m, 0, 0), "0 1 0 0 0: 0 117");
        CHECK.same("the third was not asked for", m.cell(2, 1, 1), 0);
        CHECK.same("no circle by the second", Helper.with("?kAk7").demand(0, 0), 7);
        CHECK.same("no circle by the third", Helper.with("?k7Ak").demand(0, 1), 7);
    }

    private static void choicesInsideChoices() {
        CHECK.sentence("(only that one is worked out)");
        CHECK.same("inside the first", Helper.with("??01234").demand(0, 0), 3);
        CHECK.same("inside the second", Helper.with("?1?0234").demand(0, 0), 3);
        CHECK.same("inside the second, passed over", Helper.with("?0?1Ak3+22").demand(0, 0), 4);
        CHECK.same("inside the third", Helper.with("?02?134").demand(0, 0), 3);
        CHECK.same("inside the third, passed over", Helper.with("-?1+22?1Ak31").demand(0, 0), 3);
        CHECK.same("both inside, one behind the other", Helper.with("+?1?12AkAk?0Ak?0Ak5").demand(0, 0), 7);
        CHECK.same("inside a key", Helper.with("B?1+24Ak", "k").demand(0, 0), 6);
    }

    private static void keysOfInputsModulo16() {
        CHECK.sentence("the input of the table 0, 1, 2 with the key that E is worth modulo 16 (its four lowest bits)");
        for (int table = 0; table < Helper.TABLES; table++) {
            // The value that is taken as a key stands in a table that is not asked with it.
            int other = (table + 1) % Helper.TABLES;
            Memo m = Helper.with(TABLES.charAt(table) + "" + TABLES.charAt(other) + "0");
            for (int key = 0; key < Helper.KEYS; key++) {
                m.input(table, key, 100 + key);
            }
            for (int e : KEYS_BEYOND) {
                m.input(other, 0, e);
                CHECK.same("table " + table + " with key " + e, m.demand(0, 0), 100 + (e & 15));
                CHECK.same("its read", m.read(0, 0, 1), 16 * table + (e & 15));
            }
        }
    }

    private static void keysOfCellsModulo16() {
        CHECK.sentence("A E, .. F E: what the function 0, .. 5 is worth for such a key.");
        for (int f = 0; f < Helper.FUNCTIONS; f++) {
            int asking = (f + 1) % Helper.FUNCTIONS;
            Memo m = new Memo();
            Helper.define(m, f, "+k*99");
            Helper.define(m, asking, FUNCTIONS.charAt(f) + "h0");
            for (int e : KEYS_BEYOND) {
                m.input(1, 0, e);
                CHECK.same("function " + f + " for key " + e, m.demand(asking, 0), 81 + (e & 15));
                CHECK.same("its read", m.read(asking, 0, 1), 100 + 16 * f + (e & 15));
            }
        }
    }
}
