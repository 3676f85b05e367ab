import java.util.function.Consumer;

/** Counts and prints the answers that are not as due. */
final class Check {
    /** Far above what a test needs: a call that does not end must fail its test, not hold it up. */
    private static final long LIMIT_MILLIS = 180_000;

    private String sentence = "";
    private int wrong = 0;

    Check() {
        Thread watch = new Thread(Check::endLate);
        watch.setDaemon(true);
        watch.start();
    }

    /** The document's words that the next answers are due to. */
    void sentence(String words) {
        sentence = words;
    }

    void same(String what, long got, long due) {
        same(what, String.valueOf(got), String.valueOf(due));
    }

    void same(String what, boolean got, boolean due) {
        same(what, String.valueOf(got), String.valueOf(due));
    }

    void same(String what, String got, String due) {
        if (!got.equals(due)) {
            wrong++;
            System.out.println(what + " answered\n  " + got + ", due is\n  " + due + tail());
        }
    }

    void fails(String what, Class<? extends RuntimeException> due, Runnable call) {
        try {
            call.run();
        } catch (RuntimeException e) {
            same(what + " throws", e.getClass().getName(), due.getName());
            return;
        }
        same(what + " throws", "nothing", due.getName());
    }

    /** The exception must come, and nothing may change. */
    void refuses(String what, Class<? extends RuntimeException> due, Consumer<Memo> call) {
        changesNothing(what, m -> fails(what, due, () -> call.accept(m)));
    }

    /** For wrong arguments. */
    void refuses(String what, Consumer<Memo> call) {
        refuses(what, IllegalArgumentException.class, call);
    }

    void changesNothing(String what, Consumer<Memo> call) {
        Memo m = Twins.make();
        call.accept(m);
        same(what + ": all that can be found out then", Twins.everything(m), Twins.everything(Twins.make()));
    }

    void end() {
        if (wrong != 0) {
            System.out.println(wrong + " answers are not as due");
            System.exit(1);
        }
    }

    private String tail() {
        return sentence.isEmpty() ? "" : "\n  by: " + sentence;
    }

    private static void endLate() {
        try {
            Thread.sleep(LIMIT_MILLIS);
        } catch (InterruptedException e) {
            return;
        }
        System.out.println("the test did not end");
        Runtime.getRuntime().halt(1);
    }
}
