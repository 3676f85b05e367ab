/**
 * A MemoRuntime whose calls are counted: the document leaves free what an object answers behind its
 * 512th call, so no test may ask for more.
 */
final class Memo {
    static final int NONE = MemoRuntime.NONE;

    private static final int CALLS = 512;

    private final MemoRuntime runtime = new MemoRuntime();
    private int calls = 0;

    int callsLeft() {
        return CALLS - calls;
    }

    int write(long characters) {
        return called().write(characters);
    }

    int wipe() {
        return called().wipe();
    }

    int define(int f) {
        return called().define(f);
    }

    boolean input(int table, int key, int v) {
        return called().input(table, key, v);
    }

    boolean circle(int f, int v) {
        return called().circle(f, v);
    }

    void level(int table, int c) {
        called().level(table, c);
    }

    int demand(int f, int key) {
        return called().demand(f, key);
    }

    int count(int what) {
        return called().count(what);
    }

    boolean kept(int f, int key) {
        return called().kept(f, key);
    }

    int cell(int f, int key, int what) {
        return called().cell(f, key, what);
    }

    int read(int f, int key, int i) {
        return called().read(f, key, i);
    }

    int recent(int i) {
        return called().recent(i);
    }

    int bound(int n) {
        return called().bound(n);
    }

    boolean drop(int f, int key) {
        return called().drop(f, key);
    }

    private MemoRuntime called() {
        calls++;
        if (calls > CALLS) {
            throw new AssertionError("the test makes more than " + CALLS + " calls of one object");
        }
        return runtime;
    }
}
