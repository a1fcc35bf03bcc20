import java.lang.reflect.Constructor;
import java.lang.reflect.Field;
import java.lang.reflect.Method;
import java.lang.reflect.Modifier;
import java.util.ArrayList;
import java.util.HashSet;
import java.util.List;
import java.util.Set;
import java.util.TreeSet;

/** The document's public face, and rule 1 of LANGUAGE.md: that face and no more. */
public final class FaceTest {
    private static final String[] FACE = {
        "public static final int NONE",
        "public static final int OVER",
        "public static final int FULL",
        "public SharedQueues()",
        "public int quota(int,int,int) throws java.lang.IllegalArgumentException",
        "public void kind(int,int,int) throws java.lang.IllegalArgumentException",
        "public int push(int,int,int) throws java.lang.IllegalArgumentException",
        "public int serve()",
        "public int next()",
        "public int word()",
        "public int serveUpTo(int) throws java.lang.IllegalArgumentException",
        "public int empty(int) throws java.lang.IllegalArgumentException",
        "public int told(int,int) throws java.lang.IllegalArgumentException",
        "public int item(int,int,int) throws java.lang.IllegalArgumentException,java.lang.IndexOutOfBoundsException",
        "public int all(int) throws java.lang.IllegalArgumentException",
    };

    public static void main(String[] args) {
        Check check = new Check();
        Class<?> c = SharedQueues.class;
        check.due("NONE", SharedQueues.NONE, -1);
        check.due("OVER", SharedQueues.OVER, -2);
        check.due("FULL", SharedQueues.FULL, -3);
        check.due("the class is public and final", c.getModifiers(), Modifier.PUBLIC | Modifier.FINAL);
        Set<String> want = new TreeSet<>(List.of(FACE));
        Set<String> got = new TreeSet<>(open(c));
        for (String member : want) {
            check.due("has " + member, got.contains(member) ? 1 : 0, 1);
        }
        for (String member : got) {
            check.due("may have " + member, want.contains(member) ? 1 : 0, 1);
        }
        nestedClassesAreStatic(check, c);
        privateNamesDiffer(check, c);
        check.end();
    }

    private static List<String> open(Class<?> c) {
        List<String> members = new ArrayList<>();
        for (Field f : c.getDeclaredFields()) {
            if (!Modifier.isPrivate(f.getModifiers())) {
                members.add(f.toGenericString().replace("SharedQueues.", ""));
            }
        }
        for (Constructor<?> k : c.getDeclaredConstructors()) {
            if (!Modifier.isPrivate(k.getModifiers())) {
                members.add(k.toGenericString());
            }
        }
        for (Method m : c.getDeclaredMethods()) {
            if (!Modifier.isPrivate(m.getModifiers())) {
                members.add(m.toGenericString().replace("SharedQueues.", ""));
            }
        }
        return members;
    }

    private static void nestedClassesAreStatic(Check check, Class<?> c) {
        for (Class<?> nested : c.getDeclaredClasses()) {
            int modifiers = nested.getModifiers();
            boolean fine = Modifier.isStatic(modifiers) && !Modifier.isPublic(modifiers) && !Modifier.isProtected(modifiers);
            check.due(nested + " is static and not open", fine ? 1 : 0, 1);
        }
    }

    private static void privateNamesDiffer(Check check, Class<?> c) {
        Set<String> open = new HashSet<>();
        for (Method m : c.getMethods()) {
            open.add(m.getName());
        }
        for (Method m : c.getDeclaredMethods()) {
            if (Modifier.isPrivate(m.getModifiers())) {
                check.due("private " + m.getName() + " bears a public name", open.contains(m.getName()) ? 1 : 0, 0);
            }
        }
    }
}
