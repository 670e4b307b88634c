import java.lang.reflect.Constructor;
import java.lang.reflect.Field;
import java.lang.reflect.Method;
import java.lang.reflect.Modifier;
import java.util.Set;
import java.util.TreeSet;

/** The public face is the document's, and nothing but it can be seen from outside. */
final class FaceTests {
    private static final String[] FACE = {
        "int row(int,int,int)", "int set(int,int,long)", "int copy(int,int,int,int,int)", "long element(int,int)",
        "int holds(int)", "int show(int,int)", "int says(int,int)", "int paves(int)", "int visitor(int,int,int)",
        "int wants(int,int)", "int mark(int,int,int)", "int tell(int,int)", "int feed(int)", "int wipe()",
        "int view()", "int visitorOf(int,int)", "int cellOf(int,int)", "int open(int,int)", "int shown(int,int)",
        "int known(int)", "int fresh(int)", "int veilThen(int)", "int send(int)", "int fewest(int)",
        "int order(int,int)", "int how(int,int)", "int lifted(int,int,int)", "int register(int,int,int,int)",
        "int fits(int,int,int,int)", "int together()", "int needed()", "int picture(int,int,int)",
        "int lift(int,int)", "int chance(int,int)", "int mean(int)", "int hidden()", "int best(int)",
        "int mate(int)", "int rarest(int)", "int both(int,int)", "int visitsTill(int,int)", "int who(int)",
        "int company(int)", "int spoiler(int)", "int split(int,int)", "int couple()", "int secret(int)",
        "int rank(int)", "int blind(int)", "int shyest(int)", "int alike(int,int)", "int ofKind(int)",
        "int judge(int,int)", "int behind(int,int,int)", "int visit(int)", "int days(int)", "int seed(int)",
        "int image()", "int back()", "int status(int)"
    };

    private FaceTests() {
    }

    static void run(Check c) {
        Class<?> of = VeilsOfTheView.class;
        c.test("the face", () -> {
            c.due("methods of the face", FACE.length, 60);
            c.holds("the class is public and final",
                    Modifier.isPublic(of.getModifiers()) && Modifier.isFinal(of.getModifiers()));
            Set<String> due = new TreeSet<>(Set.of(FACE));
            Set<String> found = new TreeSet<>();
            for (Method m : of.getDeclaredMethods()) {
                if (!Modifier.isPrivate(m.getModifiers())) {
                    c.holds(m + " is public and no static",
                            Modifier.isPublic(m.getModifiers()) && !Modifier.isStatic(m.getModifiers()));
                    found.add(told(m));
                }
            }
            c.holds("the methods are " + due + ", found " + found, due.equals(found));
            for (Field f : of.getDeclaredFields()) {
                c.holds(f + " is private", Modifier.isPrivate(f.getModifiers()) || f.getName().equals("NONE"));
                c.holds(f + " is final, if static",
                        !Modifier.isStatic(f.getModifiers()) || Modifier.isFinal(f.getModifiers()));
            }
            Constructor<?>[] constructors = of.getDeclaredConstructors();
            c.holds("one public constructor without numbers", constructors.length == 1
                    && Modifier.isPublic(constructors[0].getModifiers()) && constructors[0].getParameterCount() == 0);
        });
        c.test("the classes inside", () -> {
            Set<String> names = new TreeSet<>();
            for (String told : FACE) {
                names.add(told.substring(told.indexOf(' ') + 1, told.indexOf('(')));
            }
            c.holds("some twelve classes at most", of.getDeclaredClasses().length <= 11);
            for (Class<?> inside : of.getDeclaredClasses()) {
                c.holds(inside + " is static and not public",
                        Modifier.isStatic(inside.getModifiers()) && !Modifier.isPublic(inside.getModifiers()));
                inspect(c, inside, names);
            }
            for (Method m : of.getDeclaredMethods()) {
                c.holds(m + " bears no name of the face",
                        Modifier.isPublic(m.getModifiers()) || !names.contains(m.getName()));
                c.holds(m + " takes seven at most", m.getParameterCount() <= 7);
            }
        });
    }

    private static void inspect(Check c, Class<?> inside, Set<String> names) {
        int fields = 0;
        for (Field f : inside.getDeclaredFields()) {
            if (!Modifier.isStatic(f.getModifiers())) {
                fields++;
            }
            c.holds(f + " is final, if static",
                    !Modifier.isStatic(f.getModifiers()) || Modifier.isFinal(f.getModifiers()));
        }
        c.holds(inside + " has some twenty fields at most", fields <= 20);
        for (Method m : inside.getDeclaredMethods()) {
            c.holds(m + " bears no name of the face", !names.contains(m.getName()));
            c.holds(m + " takes seven at most", m.getParameterCount() <= 7);
        }
    }

    private static String told(Method m) {
        StringBuilder text = new StringBuilder(m.getReturnType() + " " + m.getName() + "(");
        for (int i = 0; i < m.getParameterCount(); i++) {
            text.append(i == 0 ? "" : ",").append(m.getParameterTypes()[i]);
        }
        return text.append(")").toString();
    }
}
