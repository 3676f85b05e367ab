import java.util.Set;
import java.util.TreeSet;
import java.util.function.IntSupplier;

/** Writes texts, and shows what an object tells of its state. */
final class Helper {
    static final int TABLES = 3;
    static final int FUNCTIONS = 6;
    static final int KEYS = 16;
    static final int CELLS = 96;

    private Helper() {
    }

    /** Up to eight characters in a long, the first one lowest. */
    static long packed(String characters) {
        long result = 0;
        for (int i = characters.length() - 1; i >= 0; i--) {
            result = result << 8 | characters.charAt(i);
        }
        return result;
    }

    /** Writes characters behind the draft; answers what the last write answered. */
    static int write(Memo m, String characters) {
        int answer = Memo.NONE;
        for (int i = 0; i < characters.length(); i += 8) {
            answer = m.write(packed(characters.substring(i, Math.min(i + 8, characters.length()))));
        }
        return answer;
    }

    /** Answers what define answered. */
    static int define(Memo m, int f, String text) {
        m.wipe();
        write(m, text);
        return m.define(f);
    }

    /** A new object whose functions have these texts, from function 0 on. */
    static Memo with(String... texts) {
        Memo m = new Memo();
        for (int f = 0; f < texts.length; f++) {
            if (define(m, f, texts[f]) != Memo.NONE) {
                throw new AssertionError("no text: " + texts[f]);
            }
        }
        return m;
    }

    /** The answer of a call, or the name of its exception behind "throws.". */
    static String answer(IntSupplier call) {
        try {
            return String.valueOf(call.getAsInt());
        } catch (RuntimeException e) {
            return "throws." + e.getClass().getSimpleName();
        }
    }

    /** Revision, run, verified, skipped, circle values, kept. */
    static String counts(Memo m) {
        StringBuilder shown = new StringBuilder();
        for (int what = 0; what <= 5; what++) {
            shown.append(what == 0 ? "" : " ").append(m.count(what));
        }
        return shown.toString();
    }

    static String recent(Memo m) {
        StringBuilder shown = new StringBuilder();
        int number = m.recent(0);
        for (int i = 1; number != Memo.NONE; i++) {
            shown.append(i == 1 ? "" : " ").append(number);
            number = m.recent(i);
        }
        return shown.toString();
    }

    /** Value, good, changed, class, whether of a circle, and the reads behind a colon. */
    static String cell(Memo m, int f, int key) {
        if (!m.kept(f, key)) {
            return "not kept";
        }
        StringBuilder shown = new StringBuilder();
        for (int what = 0; what <= 4; what++) {
            shown.append(what == 0 ? "" : " ").append(m.cell(f, key, what));
        }
        shown.append(':');
        int reads = m.cell(f, key, 5);
        for (int i = 0; i < reads; i++) {
            shown.append(' ').append(m.read(f, key, i));
        }
        return shown.toString();
    }

    /** The counts, the recent order, and each cell of it, by number. */
    static String state(Memo m) {
        Set<Integer> numbers = new TreeSet<>();
        StringBuilder shown = new StringBuilder("counts ").append(counts(m)).append("; recent");
        int number = m.recent(0);
        for (int i = 1; number != Memo.NONE; i++) {
            numbers.add(number);
            shown.append(' ').append(number);
            number = m.recent(i);
        }
        for (int n : numbers) {
            shown.append("; ").append(n / KEYS).append('(').append(n % KEYS).append(") ");
            shown.append(cell(m, n / KEYS, n % KEYS));
        }
        return shown.toString();
    }
}
