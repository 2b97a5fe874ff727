import java.lang.reflect.Constructor;
import java.lang.reflect.Field;
import java.lang.reflect.Method;
import java.lang.reflect.Modifier;
import java.util.HashSet;
import java.util.Set;
import java.util.TreeSet;

/** The class has the document's face, and no other member that can be seen from outside. */
public final class FaceTest {
    private static final Set<String> FACE = Set.of(
        "public boolean LogDesk.put(long,int)",
        "public boolean LogDesk.fill(int,int)",
        "public int LogDesk.append(int) throws java.lang.IllegalArgumentException,java.lang.IllegalStateException",
        "public int LogDesk.commit(int) throws java.lang.IllegalArgumentException,java.lang.IllegalStateException",
        "public int LogDesk.flush(int) throws java.lang.IllegalArgumentException,java.lang.UnsupportedOperationException",
        "public int LogDesk.told()",
        "public boolean LogDesk.touch(int)",
        "public int LogDesk.mark()",
        "public int LogDesk.checkpoint(int) throws java.lang.IllegalArgumentException,java.lang.UnsupportedOperationException",
        "public int LogDesk.open()",
        "public int LogDesk.next() throws java.util.NoSuchElementException",
        "public int LogDesk.length()",
        "public int LogDesk.byteOf(int)",
        "public void LogDesk.charge(int) throws java.lang.IllegalArgumentException",
        "public int LogDesk.state(int)");

    public static void main(String[] args) {
        Check check = new Check("FaceTest");
        int modifiers = LogDesk.class.getModifiers();
        check.due("is public and final", Modifier.isPublic(modifiers) && Modifier.isFinal(modifiers), true);
        checkMethods(check);
        for (Field field : LogDesk.class.getDeclaredFields()) {
            check.due(field + " is private", Modifier.isPrivate(field.getModifiers()), true);
            if (Modifier.isStatic(field.getModifiers())) {
                check.due(field + " is final", Modifier.isFinal(field.getModifiers()), true);
            }
        }
        Constructor<?>[] constructors = LogDesk.class.getDeclaredConstructors();
        check.due("constructors", constructors.length, 1);
        check.due("constructor", constructors[0].toGenericString().equals("public LogDesk(int)"), true);
        for (Class<?> inside : LogDesk.class.getDeclaredClasses()) {
            check.due(inside + " is static", Modifier.isStatic(inside.getModifiers()), true);
        }
        check.end();
    }

    private static void checkMethods(Check check) {
        Set<String> seen = new TreeSet<>();
        Set<String> names = new HashSet<>();
        for (Method method : LogDesk.class.getDeclaredMethods()) {
            if (!Modifier.isPrivate(method.getModifiers())) {
                seen.add(method.toGenericString());
                names.add(method.getName());
            }
        }
        if (!seen.equals(new TreeSet<>(FACE))) {
            check.fail("the face is " + seen);
        }
        for (Method method : LogDesk.class.getDeclaredMethods()) {
            if (Modifier.isPrivate(method.getModifiers())) {
                check.due(method + " bears a public name", names.contains(method.getName()), false);
            }
        }
    }
}
