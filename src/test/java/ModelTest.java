import java.util.Random;
import java.util.function.IntSupplier;

/** Random runs of calls, the same in every test run: program and plain model must agree on every answer. */
public final class ModelTest {
    private static final int RUNS = 3000;
    /** The calls that one step of a run may need: wipe, three writes, define. */
    private static final int DEAREST_STEP = 5;

    private final Random random;
    private final Memo program = new Memo();
    private final PlainModel model = new PlainModel();
    private final StringBuilder told = new StringBuilder();
    /** Few keys make circles and hits, many make depth. */
    private final int keys;
    private final int functions;
    private boolean agrees = true;

    private ModelTest(int seed) {
        random = new Random(seed);
        keys = 1 + random.nextInt(16);
        functions = 1 + random.nextInt(6);
    }

    public static void main(String[] args) {
        Check check = new Check();
        for (int seed = 0; seed < RUNS; seed++) {
            ModelTest run = new ModelTest(seed);
            if (!run.agreesThroughout()) {
                System.out.println("run " + seed + ":\n" + run.told);
                System.exit(1);
            }
        }
        check.end();
    }

    /** Edits and demands with a look in between, then the whole state, as far as 512 calls allow. */
    private boolean agreesThroughout() {
        int leftForTheEnd = DEAREST_STEP + 1 + random.nextInt(400);
        if (random.nextInt(4) != 0) {
            for (int table = 0; table < 3; table++) {
                level(table, random.nextInt(3));
            }
        }
        for (int f = 0; f < 6; f++) {
            defineText(f, text(f));
        }
        while (agrees && program.callsLeft() > leftForTheEnd) {
            step();
            look();
        }
        compareState();
        return agrees;
    }

    private void step() {
        int kind = random.nextInt(100);
        if (kind < 50) {
            int f = function();
            int key = key();
            same("demand(" + f + ", " + key + ")", () -> program.demand(f, key), () -> model.demand(f, key));
        } else if (kind < 80) {
            int table = oddly(random.nextInt(3));
            int key = key();
            int v = random.nextInt(3) == 0 ? random.nextInt() : random.nextInt(3) - 1;
            same("input(" + table + ", " + key + ", " + v + ")",
                    () -> program.input(table, key, v) ? 1 : 0, () -> model.input(table, key, v) ? 1 : 0);
        } else if (kind < 85) {
            int f = function();
            int v = random.nextInt(20) - 3;
            same("circle(" + f + ", " + v + ")",
                    () -> program.circle(f, v) ? 1 : 0, () -> model.circle(f, v) ? 1 : 0);
        } else if (kind < 92) {
            int f = function();
            int key = key();
            same("drop(" + f + ", " + key + ")",
                    () -> program.drop(f, key) ? 1 : 0, () -> model.drop(f, key) ? 1 : 0);
        } else if (kind < 96) {
            int n = random.nextInt(3) == 0 ? random.nextInt(100) - 1 : 1 + random.nextInt(20);
            same("bound(" + n + ")", () -> program.bound(n), () -> model.bound(n));
        } else if (kind < 97) {
            level(oddly(random.nextInt(3)), oddly(random.nextInt(3)));
        } else if (kind < 98) {
            int f = function();
            defineText(f, text(Math.floorMod(f, 6)));
        } else {
            scribble();
        }
    }

    private void look() {
        switch (random.nextInt(6)) {
            case 0 -> compareCount(random.nextInt(8) - 1);
            case 1 -> compareRecent(random.nextInt(model.count(5) + 2) - 1);
            case 2 -> compareKept(function(), key());
            case 3 -> compareCell(function(), key(), random.nextInt(8) - 1);
            case 4 -> compareRead(function(), key(), random.nextInt(8) - 1);
            default -> { }
        }
    }

    private void level(int table, int c) {
        same("level(" + table + ", " + c + ")", () -> {
            program.level(table, c);
            return 0;
        }, () -> {
            model.level(table, c);
            return 0;
        });
    }

    private void defineText(int f, String text) {
        same("wipe()", program::wipe, model::wipe);
        for (int i = 0; i < text.length(); i += 8) {
            write(Helper.packed(text.substring(i, Math.min(i + 8, text.length()))));
        }
        define(f);
    }

    private void write(long characters) {
        same("write(" + characters + ")", () -> program.write(characters), () -> model.write(characters));
    }

    private void define(int f) {
        same("define(" + f + ")", () -> program.define(f), () -> model.define(f));
    }

    /** Mostly no text. */
    private void scribble() {
        String some = "0k+-*?ghiABCDEFx";
        long characters = 0;
        for (int i = 0; i < 8; i++) {
            int c = random.nextInt(3) == 0 ? 0 : some.charAt(random.nextInt(some.length()));
            characters = characters << 8 | c;
        }
        write(characters);
        define(function());
    }

    private int function() {
        return oddly(random.nextInt(functions));
    }

    private int key() {
        return oddly(random.nextInt(keys));
    }

    /** Now and then a number that is out of range, or at its edge. */
    private int oddly(int v) {
        return random.nextInt(60) != 0 ? v : random.nextInt(20) - 2;
    }

    private String text(int f) {
        if (random.nextInt(4) == 0) {
            // Chains that go down the keys and on to the next function: these come to twenty cells.
            String next = "ABCDEF".charAt(Math.min(f + 1, 5)) + (random.nextBoolean() ? "9" : "k");
            return "?k" + "ABCDEF".charAt(f) + "-k1" + (f == 5 ? "gk" : next);
        }
        String text = expression(24);
        return text.length() <= 24 ? text : "gk";
    }

    private String expression(int room) {
        int kind = random.nextInt(10);
        if (room < 2 || kind < 2) {
            return random.nextInt(3) == 0 ? String.valueOf(random.nextInt(10)) : "k";
        }
        if (kind < 4) {
            return "ghi".charAt(random.nextInt(3)) + expression(room - 1);
        }
        if (kind < 7) {
            return "ABCDEF".charAt(random.nextInt(functions)) + expression(room - 1);
        }
        if (kind < 9) {
            return "+-*".charAt(random.nextInt(3)) + expression(room / 2) + expression(room / 2);
        }
        return "?" + expression(room / 3) + expression(room / 3) + expression(room / 3);
    }

    /** From the end of the recent order on: what was done last shows there. */
    private void compareState() {
        for (int what = 0; what <= 5; what++) {
            compareCount(what);
        }
        for (int i = model.count(5); i >= 0; i--) {
            compareRecent(i);
        }
        for (int i = model.count(5) - 1; i >= 0; i--) {
            int f = model.recent(i) / 16;
            int key = model.recent(i) % 16;
            for (int what = 0; what <= 5; what++) {
                compareCell(f, key, what);
            }
            for (int j = 0; agrees && j <= model.cell(f, key, 5); j++) {
                compareRead(f, key, j);
            }
        }
    }

    private void compareCount(int what) {
        same("count(" + what + ")", () -> program.count(what), () -> model.count(what));
    }

    private void compareRecent(int i) {
        same("recent(" + i + ")", () -> program.recent(i), () -> model.recent(i));
    }

    private void compareKept(int f, int key) {
        same("kept(" + f + ", " + key + ")",
                () -> program.kept(f, key) ? 1 : 0, () -> model.kept(f, key) ? 1 : 0);
    }

    private void compareCell(int f, int key, int what) {
        same("cell(" + f + ", " + key + ", " + what + ")",
                () -> program.cell(f, key, what), () -> model.cell(f, key, what));
    }

    private void compareRead(int f, int key, int i) {
        same("read(" + f + ", " + key + ", " + i + ")",
                () -> program.read(f, key, i), () -> model.read(f, key, i));
    }

    /** Makes the call of both, unless they have differed already or the object has had its calls. */
    private void same(String call, IntSupplier ofProgram, IntSupplier ofModel) {
        if (!agrees || program.callsLeft() == 0) {
            return;
        }
        String got = Helper.answer(ofProgram);
        String due = Helper.answer(ofModel);
        agrees = got.equals(due);
        told.append("  ").append(call).append(" answered ").append(got);
        told.append(agrees ? "" : ", due is " + due).append('\n');
    }
}
