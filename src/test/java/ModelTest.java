import java.util.NoSuchElementException;
import java.util.Random;
import java.util.function.IntSupplier;

/** Random runs of calls, the same in every test run: program and plain model must agree on every answer. */
public final class ModelTest {
    private static final int RUNS = 600;
    private static final int CALLS = 512;

    private final Random random;
    private final MemoRuntime program = new MemoRuntime();
    private final PlainModel model = new PlainModel();
    private final StringBuilder told = new StringBuilder();
    /** Few keys make circles and hits, many make depth. */
    private final int keys;
    private final int functions;
    private boolean agrees = true;

    private ModelTest(int seed) {
        random = new Random(seed);
        keys = 1 + random.nextInt(16);
        functions = 1 + random.nextInt(6);
    }

    public static void main(String[] args) {
        for (int seed = 0; seed < RUNS; seed++) {
            ModelTest run = new ModelTest(seed);
            if (!run.agreesThroughout()) {
                System.out.println("run " + seed + ":\n" + run.told);
                System.exit(1);
            }
        }
    }

    private boolean agreesThroughout() {
        if (random.nextInt(4) != 0) {
            for (int table = 0; table < 3; table++) {
                level(table, random.nextInt(3));
            }
        }
        for (int f = 0; f < 6; f++) {
            defineText(f, text(f));
        }
        for (int i = 0; i < CALLS && agrees; i++) {
            nextCall();
            compareState();
        }
        return agrees;
    }

    private void nextCall() {
        int kind = random.nextInt(100);
        if (kind < 50) {
            int f = function();
            int key = key();
            same("demand(" + f + ", " + key + ")", () -> program.demand(f, key), () -> model.demand(f, key));
        } else if (kind < 80) {
            int table = oddly(random.nextInt(3));
            int key = key();
            int v = random.nextInt(3) == 0 ? random.nextInt() : random.nextInt(3) - 1;
            same("input(" + table + ", " + key + ", " + v + ")",
                    () -> program.input(table, key, v) ? 1 : 0, () -> model.input(table, key, v) ? 1 : 0);
        } else if (kind < 85) {
            int f = function();
            int v = random.nextInt(20) - 3;
            same("circle(" + f + ", " + v + ")",
                    () -> program.circle(f, v) ? 1 : 0, () -> model.circle(f, v) ? 1 : 0);
        } else if (kind < 92) {
            int f = function();
            int key = key();
            same("drop(" + f + ", " + key + ")",
                    () -> program.drop(f, key) ? 1 : 0, () -> model.drop(f, key) ? 1 : 0);
        } else if (kind < 96) {
            int n = random.nextInt(3) == 0 ? random.nextInt(100) - 1 : 1 + random.nextInt(20);
            same("bound(" + n + ")", () -> program.bound(n), () -> model.bound(n));
        } else if (kind < 97) {
            level(oddly(random.nextInt(3)), oddly(random.nextInt(3)));
        } else if (kind < 98) {
            int f = function();
            defineText(f, text(Math.floorMod(f, 6)));
        } else {
            scribble();
        }
    }

    private void level(int table, int c) {
        same("level(" + table + ", " + c + ")", () -> {
            program.level(table, c);
            return 0;
        }, () -> {
            model.level(table, c);
            return 0;
        });
    }

    private void defineText(int f, String text) {
        same("wipe()", program::wipe, model::wipe);
        for (int i = 0; i < text.length(); i += 8) {
            write(Helper.packed(text.substring(i, Math.min(i + 8, text.length()))));
        }
        define(f);
    }

    private void write(long characters) {
        same("write(" + characters + ")", () -> program.write(characters), () -> model.write(characters));
    }

    private void define(int f) {
        same("define(" + f + ")", () -> program.define(f), () -> model.define(f));
    }

    /** Mostly no text. */
    private void scribble() {
        String some = "0k+-*?ghiABCDEFx";
        long characters = 0;
        for (int i = 0; i < 8; i++) {
            int c = random.nextInt(3) == 0 ? 0 : some.charAt(random.nextInt(some.length()));
            characters = characters << 8 | c;
        }
        write(characters);
        define(function());
    }

    private int function() {
        return oddly(random.nextInt(functions));
    }

    private int key() {
        return oddly(random.nextInt(keys));
    }

    /** Now and then a number that is out of range, or at its edge. */
    private int oddly(int v) {
        return random.nextInt(60) != 0 ? v : random.nextInt(20) - 2;
    }

    private String text(int f) {
        if (random.nextInt(4) == 0) {
            // Chains that go down the keys and on to the next function: these come to twenty cells.
            String next = "ABCDEF".charAt(Math.min(f + 1, 5)) + (random.nextBoolean() ? "9" : "k");
            return "?k" + "ABCDEF".charAt(f) + "-k1" + (f == 5 ? "gk" : next);
        }
        String text = expression(24);
        return text.length() <= 24 ? text : "gk";
    }

    private String expression(int room) {
        int kind = random.nextInt(10);
        if (room < 2 || kind < 2) {
            return random.nextInt(3) == 0 ? String.valueOf(random.nextInt(10)) : "k";
        }
        if (kind < 4) {
            return "ghi".charAt(random.nextInt(3)) + expression(room - 1);
        }
        if (kind < 7) {
            return "ABCDEF".charAt(random.nextInt(functions)) + expression(room - 1);
        }
        if (kind < 9) {
            return "+-*".charAt(random.nextInt(3)) + expression(room / 2) + expression(room / 2);
        }
        return "?" + expression(room / 3) + expression(room / 3) + expression(room / 3);
    }

    private void compareState() {
        for (int what = -1; what <= 6; what++) {
            int asked = what;
            same("count(" + what + ")", () -> program.count(asked), () -> model.count(asked));
        }
        for (int i = -1; i <= model.count(5); i++) {
            int asked = i;
            same("recent(" + i + ")", () -> program.recent(asked), () -> model.recent(asked));
        }
        for (int number = 0; number < 96; number++) {
            compareCell(number / 16, number % 16);
        }
        compareLook(oddly(0), oddly(0), random.nextInt(8) - 1);
    }

    private void compareCell(int f, int key) {
        same("kept(" + f + ", " + key + ")",
                () -> program.kept(f, key) ? 1 : 0, () -> model.kept(f, key) ? 1 : 0);
        if (agrees && model.kept(f, key)) {
            for (int what = 0; what <= 5; what++) {
                compareLook(f, key, what);
            }
            for (int i = 6; i <= model.cell(f, key, 5); i++) {
                compareLook(f, key, i);
            }
        }
    }

    private void compareLook(int f, int key, int i) {
        String arguments = "(" + f + ", " + key + ", " + i + ")";
        same("cell" + arguments, () -> program.cell(f, key, i), () -> model.cell(f, key, i));
        same("read" + arguments, () -> program.read(f, key, i), () -> model.read(f, key, i));
    }

    private void same(String call, IntSupplier ofProgram, IntSupplier ofModel) {
        if (!agrees) {
            return;
        }
        String got = answer(ofProgram);
        String due = answer(ofModel);
        boolean changes = !call.startsWith("count") && !call.startsWith("recent") && !call.startsWith("kept")
                && !call.startsWith("cell") && !call.startsWith("read");
        agrees = got.equals(due);
        if (changes || !agrees) {
            told.append("  ").append(call).append(" answered ").append(got);
            told.append(agrees ? "" : ", due is " + due).append('\n');
        }
    }

    private static String answer(IntSupplier call) {
        try {
            return String.valueOf(call.getAsInt());
        } catch (IllegalArgumentException | IllegalStateException | NoSuchElementException e) {
            return "throws." + e.getClass().getSimpleName();
        }
    }
}
