import java.lang.reflect.Constructor;
import java.lang.reflect.Field;
import java.lang.reflect.Method;
import java.lang.reflect.Modifier;
import java.util.Set;
import java.util.TreeSet;

/** The class shows the members of the document's face and no others. */
public final class FaceTest {
    private static final String[] DUE = {
        "public final class MemoRuntime",
        "public static final int MemoRuntime.NONE",
        "public MemoRuntime()",
        "public int MemoRuntime.write(long)",
        "public int MemoRuntime.wipe()",
        "public int MemoRuntime.define(int) throws java.lang.IllegalArgumentException",
        "public boolean MemoRuntime.input(int,int,int) throws java.lang.IllegalArgumentException",
        "public boolean MemoRuntime.circle(int,int) throws java.lang.IllegalArgumentException",
        "public void MemoRuntime.level(int,int) throws java.lang.IllegalArgumentException",
        "public int MemoRuntime.demand(int,int) throws java.lang.IllegalArgumentException,"
            + "java.lang.IllegalStateException",
        "public int MemoRuntime.count(int)",
        "public boolean MemoRuntime.kept(int,int) throws java.lang.IllegalArgumentException",
        "public int MemoRuntime.cell(int,int,int) throws java.lang.IllegalArgumentException,"
            + "java.util.NoSuchElementException",
        "public int MemoRuntime.read(int,int,int) throws java.lang.IllegalArgumentException,"
            + "java.util.NoSuchElementException",
        "public int MemoRuntime.recent(int)",
        "public int MemoRuntime.bound(int) throws java.lang.IllegalArgumentException",
        "public boolean MemoRuntime.drop(int,int) throws java.lang.IllegalArgumentException",
    };

    public static void main(String[] args) {
        Check check = new Check();
        Set<String> due = new TreeSet<>(Set.of(DUE));
        check.same("the face", String.join("\n  ", shownFace()), String.join("\n  ", due));
        check.same("NONE", MemoRuntime.NONE, -1);
        check.end();
    }

    private static Set<String> shownFace() {
        Set<String> shown = new TreeSet<>();
        shown.add(MemoRuntime.class.toGenericString());
        for (Field field : MemoRuntime.class.getDeclaredFields()) {
            if (!Modifier.isPrivate(field.getModifiers())) {
                shown.add(field.toString());
            }
        }
        for (Constructor<?> constructor : MemoRuntime.class.getDeclaredConstructors()) {
            if (!Modifier.isPrivate(constructor.getModifiers())) {
                shown.add(constructor.toString());
            }
        }
        for (Method method : MemoRuntime.class.getDeclaredMethods()) {
            if (!Modifier.isPrivate(method.getModifiers())) {
                shown.add(method.toString());
            }
        }
        return shown;
    }
}
