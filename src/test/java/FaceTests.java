import java.lang.reflect.Constructor;
import java.lang.reflect.Executable;
import java.lang.reflect.Field;
import java.lang.reflect.Member;
import java.lang.reflect.Method;
import java.lang.reflect.Modifier;
import java.util.Arrays;
import java.util.Set;
import java.util.TreeSet;

/** The public face is the document's, and nothing but it can be seen from outside. */
final class FaceTests {
    private FaceTests() {
    }

    static void run(Check c) {
        Class<?> of = VeilsOfTheView.class;
        c.test("the face", () -> {
            Set<String> due = new TreeSet<>();
            for (String line : Document.face()) {
                due.add(line.replaceAll("(int|long) \\w+(?=[,)])", "$1"));
            }
            c.due("members of the face", due.size(), 63);
            Set<String> found = new TreeSet<>(Set.of(Modifier.toString(of.getModifiers()) + " class " + of.getName() + " {"));
            for (Method m : of.getDeclaredMethods()) {
                addUnlessPrivate(found, m, m.getReturnType() + " " + m.getName() + types(m) + ";");
            }
            for (Constructor<?> made : of.getDeclaredConstructors()) {
                addUnlessPrivate(found, made, made.getName() + types(made) + ";");
            }
            for (Field f : of.getDeclaredFields()) {
                addUnlessPrivate(found, f, f.getType() + " " + f.getName() + " = " + valueOf(f) + ";");
                c.holds(f + " is final, if static",
                        !Modifier.isStatic(f.getModifiers()) || Modifier.isFinal(f.getModifiers()));
            }
            c.holds("the face is " + due + ", found " + found, due.equals(found));
        });
        c.test("the classes inside", () -> {
            Set<String> names = new TreeSet<>();
            for (Method m : of.getMethods()) {
                if (m.getDeclaringClass() == of) {
                    names.add(m.getName());
                }
            }
            c.holds("some twelve classes at most", of.getDeclaredClasses().length <= 11);
            for (Class<?> inside : of.getDeclaredClasses()) {
                c.holds(inside + " is static and not public",
                        Modifier.isStatic(inside.getModifiers()) && !Modifier.isPublic(inside.getModifiers()));
                inspect(c, inside, names);
            }
            for (Method m : of.getDeclaredMethods()) {
                c.holds(m + " bears no name of the face",
                        Modifier.isPublic(m.getModifiers()) || !names.contains(m.getName()));
                c.holds(m + " takes seven at most", m.getParameterCount() <= 7);
            }
        });
    }

    private static void inspect(Check c, Class<?> inside, Set<String> names) {
        int fields = 0;
        for (Field f : inside.getDeclaredFields()) {
            if (!Modifier.isStatic(f.getModifiers())) {
                fields++;
            }
            c.holds(f + " is final, if static",
                    !Modifier.isStatic(f.getModifiers()) || Modifier.isFinal(f.getModifiers()));
        }
        c.holds(inside + " has some twenty fields at most", fields <= 20);
        for (Method m : inside.getDeclaredMethods()) {
            c.holds(m + " bears no name of the face", !names.contains(m.getName()));
            c.holds(m + " takes seven at most", m.getParameterCount() <= 7);
        }
    }

    private static void addUnlessPrivate(Set<String> found, Member member, String told) {
        if (!Modifier.isPrivate(member.getModifiers())) {
            found.add(Modifier.toString(member.getModifiers()) + " " + told);
        }
    }

    private static String types(Executable of) {
        return Arrays.toString(of.getParameterTypes()).replace('[', '(').replace(']', ')');
    }

    private static Object valueOf(Field constant) {
        try {
            return Modifier.isPublic(constant.getModifiers()) ? constant.get(null) : "unknown";
        } catch (IllegalAccessException closed) {
            throw new IllegalStateException(closed);
        }
    }
}
