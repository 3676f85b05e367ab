/** 'Terms' up to what is kept of a cell: each sentence that names a boundary case, with a test of its own. */
public final class TermsEdgesTest {
    private static final Check CHECK = new Check();
    private static final int MIN = Integer.MIN_VALUE;
    private static final int MAX = Integer.MAX_VALUE;
    private static final String[] INPUTS = {"gk", "hk", "ik"};
    private static final String FUNCTIONS = "ABCDEF";

    public static void main(String[] args) {
        upTo512Calls();
        tablesAndTheirKeys();
        inputsAreInts();
        inputsAtFirst();
        classesOfTables();
        functionsAndTheirKeys();
        functionsAreWorthInts();
        circleValuesAndTextsAtFirst();
        reckoningOfInts();
        numbersOfCells();
        revisionAtFirst();
        revisionGrowsWithEdits();
        classesOfEdits();
        inputsChanged();
        readsEachOnce();
        asManyReadsAsATextCanHold();
        leastClassOfReads();
        CHECK.end();
    }

    private static void upTo512Calls() {
        CHECK.sentence("An object is used for at most 512 calls after it has been made");
        Memo edited = new Memo();
        for (int i = 1; i <= 511; i++) {
            CHECK.same("edit " + i, edited.input(2, 15, i), true);
        }
        CHECK.same("the 512th call", edited.count(0), 511);
        Memo m = new Memo();
        m.write(Helper.packed("+?kA-k10"));
        m.write(Helper.packed("Ak"));
        m.define(0);
        for (int i = 1; i <= 254; i++) {
            m.input(0, 0, i);
            CHECK.same("demand " + i + " with sixteen circles", m.demand(0, 15), 0);
        }
        CHECK.same("the 512th call", m.count(4), 254 * 16);
    }

    private static void tablesAndTheirKeys() {
        CHECK.sentence("There are three TABLES of INPUTS, 0 .. 2, each with the keys 0 .. 15");
        Memo m = Helper.with(INPUTS);
        for (int table = 0; table < Helper.TABLES; table++) {
            for (int key = 0; key < Helper.KEYS; key++) {
                CHECK.same("an edit", m.input(table, key, 100 * table + key + 1), true);
            }
        }
        for (int table = 0; table < Helper.TABLES; table++) {
            for (int key = 0; key < Helper.KEYS; key++) {
                CHECK.same("input " + key + " of table " + table, m.demand(table, key), 100 * table + key + 1);
                CHECK.same("its number", m.read(table, key, 0), 16 * table + key);
            }
        }
    }

    private static void inputsAreInts() {
        CHECK.sentence("inputs are ints, at first 0");
        Memo m = Helper.with(INPUTS);
        for (int table = 0; table < Helper.TABLES; table++) {
            for (int v : new int[] {MIN, MAX, -1, 1, MIN + 1, MAX - 1}) {
                m.input(table, 15, v);
                CHECK.same("input of table " + table, m.demand(table, 15), v);
            }
        }
    }

    private static void inputsAtFirst() {
        CHECK.sentence("inputs are ints, at first 0");
        Memo m = Helper.with(INPUTS);
        for (int table = 0; table < Helper.TABLES; table++) {
            for (int key = 0; key < Helper.KEYS; key++) {
                CHECK.same("input " + key + " of table " + table, m.demand(table, key), 0);
                CHECK.same("it has that value already", m.input(table, key, 0), false);
            }
        }
    }

    private static void classesOfTables() {
        CHECK.sentence("Each table has a CLASS, 0 .. 2, at first 0");
        for (int table = 0; table < Helper.TABLES; table++) {
            Memo m = Helper.with(INPUTS);
            m.demand(table, 3);
            CHECK.same("class of table " + table + " at first", m.cell(table, 3, 3), 0);
            for (int c = 2; c >= 0; c--) {
                m.level(table, c);
                m.demand(table, 3);
                CHECK.same("class of table " + table, m.cell(table, 3, 3), c);
                m.demand((table + 1) % 3, 3);
                CHECK.same("class of the next table", m.cell((table + 1) % 3, 3, 3), 0);
            }
        }
    }

    private static void functionsAndTheirKeys() {
        CHECK.sentence("Six FUNCTIONS, 0 .. 5, have keys 0 .. 15");
        Memo m = Helper.with("+k**440", "+k**441", "+k**442", "+k**443", "+k**444", "+k**445");
        for (int f = 0; f < Helper.FUNCTIONS; f++) {
            for (int key = 0; key < Helper.KEYS; key++) {
                CHECK.same("function " + f + " for " + key, m.demand(f, key), 16 * f + key);
            }
        }
    }

    private static void functionsAreWorthInts() {
        CHECK.sentence("and are worth ints");
        Memo m = Helper.with("g0", "A0", "B0", "C0", "D0", "E0");
        for (int v : new int[] {MIN, MAX, -1, MIN + 1, MAX - 1}) {
            m.input(0, 0, v);
            CHECK.same("the last of six", m.demand(5, 15), v);
            CHECK.same("its cell", m.cell(5, 15, 0), v);
        }
    }

    private static void circleValuesAndTextsAtFirst() {
        CHECK.sentence("each has a CIRCLE VALUE, at first 0, and a text, at first the character 0");
        for (int f = 0; f < Helper.FUNCTIONS; f++) {
            Memo m = new Memo();
            CHECK.same("worth at first", m.demand(f, 15), 0);
            CHECK.same("cell at first", Helper.cell(m, f, 15), "0 0 0 2 0:");
            CHECK.same("it has that circle value already", m.circle(f, 0), false);
            Helper.define(m, f, FUNCTIONS.charAt(f) + "k");
            CHECK.same("circle value at first", m.demand(f, 15), 0);
            CHECK.same("its cell", Helper.cell(m, f, 15), "0 0 0 0 1:");
        }
    }

    private static void reckoningOfInts() {
        CHECK.sentence("All reckoning is that of ints.");
        reckon("+", MAX, 1, MIN);
        reckon("+", MIN, -1, MAX);
        reckon("+", MIN, MIN, 0);
        reckon("+", MAX, MAX, -2);
        reckon("-", MIN, 1, MAX);
        reckon("-", MAX, -1, MIN);
        reckon("-", 0, MIN, MIN);
        reckon("*", MAX, 2, -2);
        reckon("*", MIN, -1, MIN);
        reckon("*", MAX, MAX, 1);
        reckon("*", 65_536, 65_536, 0);
        reckon("*", 46_341, 46_341, -2_147_479_015);
    }

    private static void reckon(String operator, int a, int b, int due) {
        Memo m = Helper.with(operator + "g0g1");
        m.input(0, 0, a);
        m.input(0, 1, b);
        CHECK.same(a + " " + operator + " " + b, m.demand(0, 0), due);
    }

    private static void numbersOfCells() {
        CHECK.sentence("its number is 16 times the function and the key");
        Memo m = new Memo();
        int[] numbers = {0, 15, 16, 31, 47, 64, 80, 95};
        for (int i = 0; i < numbers.length; i++) {
            m.demand(numbers[i] / 16, numbers[i] % 16);
            CHECK.same("the cell demanded last", m.recent(i), numbers[i]);
        }
    }

    private static void revisionAtFirst() {
        CHECK.sentence("The REVISION is 0 at first.");
        Memo m = Helper.with("gk");
        m.level(0, 2);
        m.demand(0, 0);
        m.drop(0, 0);
        m.bound(1);
        m.wipe();
        CHECK.same("without an edit", m.count(0), 0);
    }

    private static void revisionGrowsWithEdits() {
        CHECK.sentence("It grows by 1 with each EDIT: an input or a circle value gets another value than it had.");
        Memo m = new Memo();
        m.input(0, 0, 5);
        CHECK.same("another value", m.count(0), 1);
        m.input(0, 0, 5);
        CHECK.same("the value that it had", m.count(0), 1);
        m.input(0, 0, 0);
        CHECK.same("back to the first one", m.count(0), 2);
        m.input(0, 1, 0);
        CHECK.same("the value that this one had", m.count(0), 2);
        m.input(1, 0, MIN);
        m.input(1, 0, MAX);
        CHECK.same("from one end to the other", m.count(0), 4);
        m.circle(0, 5);
        CHECK.same("another circle value", m.count(0), 5);
        m.circle(0, 5);
        CHECK.same("the circle value that it had", m.count(0), 5);
        m.circle(5, 5);
        CHECK.same("of another function", m.count(0), 6);
        m.circle(0, 0);
        CHECK.same("back to the first one", m.count(0), 7);
    }

    private static void classesOfEdits() {
        CHECK.sentence("An edit of an input has the class of its table, of a circle value the class 0.");
        for (int ofCell = 0; ofCell <= 2; ofCell++) {
            for (int ofEdit = 0; ofEdit <= 2; ofEdit++) {
                Memo m = Helper.with(INPUTS);
                m.level(1, 1);
                m.level(2, 2);
                m.demand(ofCell, 0);
                m.input(ofEdit, 9, 1);
                m.demand(ofCell, 0);
                CHECK.same("a cell of class " + ofCell + " after an edit of class " + ofEdit,
                        Helper.counts(m), ofEdit < ofCell ? "1 1 0 1 0 1" : "1 1 1 0 0 1");
            }
            Memo m = Helper.with(INPUTS);
            m.level(1, 1);
            m.level(2, 2);
            m.demand(ofCell, 0);
            m.circle(5, 1);
            m.demand(ofCell, 0);
            CHECK.same("a cell of class " + ofCell + " after the edit of a circle value",
                    Helper.counts(m), ofCell > 0 ? "1 1 0 1 0 1" : "1 1 1 0 0 1");
        }
    }

    private static void inputsChanged() {
        CHECK.sentence("Of each input is known in which revision it CHANGED last (0 at first).");
        Memo m = Helper.with("*0+g0hk");
        m.demand(0, 15);
        m.input(0, 1, 1);
        m.demand(0, 15);
        CHECK.same("neither has changed: verified", Helper.counts(m), "1 1 1 0 0 1");
        m.input(1, 15, 1);
        m.demand(0, 15);
        CHECK.same("the second has: run", Helper.counts(m), "2 2 1 0 0 1");
        m.input(0, 1, 2);
        m.demand(0, 15);
        CHECK.same("not since: verified", Helper.counts(m), "3 2 2 0 0 1");
        m.input(0, 0, 1);
        m.input(0, 0, 0);
        m.demand(0, 15);
        CHECK.same("the first has, although it is as it was: run", Helper.counts(m), "5 3 2 0 0 1");
    }

    private static void readsEachOnce() {
        CHECK.sentence("each once, in the order in which they were first read");
        Memo m = Helper.with("+Bk+gk+gk+B0+h0+Bkgk", "7");
        m.demand(0, 0);
        CHECK.same("reads", Helper.cell(m, 0, 0), "21 0 0 0 0: 116 0 16");
    }

    private static void asManyReadsAsATextCanHold() {
        CHECK.sentence("its READS, the inputs and cells that it read when it was run, each once");
        Memo m = Helper.with("ghighighighighighighighk");
        for (int key = 0; key < Helper.KEYS; key++) {
            for (int table = 0; table < Helper.TABLES; table++) {
                m.input(table, key, key + 1);
            }
        }
        CHECK.same("twenty-three inputs, one by way of the other", m.demand(0, 0), 7);
        CHECK.same("they are", Helper.cell(m, 0, 0), "7 48 48 0 0:"
                + " 16 1 34 19 4 37 22 7 40 25 10 43 28 13 46 31 0 33 18 3 36 21 6");
        Memo repeating = Helper.with("gggggggggggggggggggggggk");
        for (int key = 0; key < Helper.KEYS; key++) {
            repeating.input(0, key, key + 1);
        }
        CHECK.same("the sixteen of one table, some of them twice", repeating.demand(0, 3), 10);
        CHECK.same("they are", Helper.cell(repeating, 0, 3), "10 16 16 0 0:"
                + " 3 4 5 6 7 8 9 10 11 12 13 14 15 0 1 2");
    }

    private static void leastClassOfReads() {
        CHECK.sentence("its class, the least one of its reads (inputs have that of their table), 2 without reads");
        Memo m = Helper.with("k", "ik", "+Bkhk", "+gkCk", "+AkBk", "+CkAk");
        m.level(1, 1);
        m.level(2, 2);
        int[] due = {2, 2, 1, 0, 2, 1};
        for (int f = 0; f < due.length; f++) {
            m.demand(f, 15);
            CHECK.same("class of a cell of function " + f, m.cell(f, 15, 3), due[f]);
        }
    }
}
