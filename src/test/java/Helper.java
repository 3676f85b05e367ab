/** Writes texts, and shows all that an object tells of its state. */
final class Helper {
    static final int FUNCTIONS = 6;
    static final int KEYS = 16;

    private Helper() {
    }

    /** Up to eight characters in a long, the first one lowest. */
    static long packed(String characters) {
        long result = 0;
        for (int i = characters.length() - 1; i >= 0; i--) {
            result = result << 8 | characters.charAt(i);
        }
        return result;
    }

    /** Writes characters behind the draft; answers what the last write answered. */
    static int write(MemoRuntime m, String characters) {
        int answer = MemoRuntime.NONE;
        for (int i = 0; i < characters.length(); i += 8) {
            answer = m.write(packed(characters.substring(i, Math.min(i + 8, characters.length()))));
        }
        return answer;
    }

    /** Answers what define answered. */
    static int define(MemoRuntime m, int f, String text) {
        m.wipe();
        write(m, text);
        return m.define(f);
    }

    /** A new object whose functions have these texts, from function 0 on. */
    static MemoRuntime with(String... texts) {
        MemoRuntime m = new MemoRuntime();
        for (int f = 0; f < texts.length; f++) {
            if (define(m, f, texts[f]) != MemoRuntime.NONE) {
                throw new AssertionError("no text: " + texts[f]);
            }
        }
        return m;
    }

    static String counts(MemoRuntime m) {
        StringBuilder shown = new StringBuilder();
        for (int what = 0; what <= 5; what++) {
            shown.append(what == 0 ? "" : " ").append(m.count(what));
        }
        return shown.toString();
    }

    static String recent(MemoRuntime m) {
        StringBuilder shown = new StringBuilder();
        for (int i = 0; m.recent(i) != MemoRuntime.NONE; i++) {
            shown.append(i == 0 ? "" : " ").append(m.recent(i));
        }
        return shown.toString();
    }

    /** Value, good, changed, class, whether of a circle, and the reads behind a colon. */
    static String cell(MemoRuntime m, int f, int key) {
        if (!m.kept(f, key)) {
            return "not kept";
        }
        StringBuilder shown = new StringBuilder();
        for (int what = 0; what <= 4; what++) {
            shown.append(what == 0 ? "" : " ").append(m.cell(f, key, what));
        }
        shown.append(':');
        for (int i = 0; i < m.cell(f, key, 5); i++) {
            shown.append(' ').append(m.read(f, key, i));
        }
        return shown.toString();
    }

    static String state(MemoRuntime m) {
        StringBuilder shown = new StringBuilder();
        shown.append("counts ").append(counts(m)).append("; recent ").append(recent(m));
        for (int f = 0; f < FUNCTIONS; f++) {
            for (int key = 0; key < KEYS; key++) {
                if (m.kept(f, key)) {
                    shown.append("; ").append(f).append('(').append(key).append(") ");
                    shown.append(cell(m, f, key));
                }
            }
        }
        return shown.toString();
    }
}
