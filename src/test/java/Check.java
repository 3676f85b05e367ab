/** Counts and prints the answers that are not as due. */
final class Check {
    private int wrong = 0;

    void same(String what, long got, long due) {
        if (got != due) {
            wrong++;
            System.out.println(what + " answered " + got + ", due is " + due);
        }
    }

    void same(String what, boolean got, boolean due) {
        same(what, got ? 1 : 0, due ? 1 : 0);
    }

    void same(String what, String got, String due) {
        if (!got.equals(due)) {
            wrong++;
            System.out.println(what + " is\n  " + got + ", due is\n  " + due);
        }
    }

    void fails(String what, Class<? extends RuntimeException> due, Runnable call) {
        try {
            call.run();
        } catch (RuntimeException e) {
            same(what + " throws", e.getClass().getName(), due.getName());
            return;
        }
        same(what + " throws", "nothing", due.getName());
    }

    /** For wrong arguments: the exception must come, and nothing may change. */
    void refuses(String what, MemoRuntime m, Runnable call) {
        String before = Helper.state(m);
        fails(what, IllegalArgumentException.class, call);
        same(what + ": the state", Helper.state(m), before);
    }

    void end() {
        if (wrong != 0) {
            System.out.println(wrong + " answers are not as due");
            System.exit(1);
        }
    }
}
