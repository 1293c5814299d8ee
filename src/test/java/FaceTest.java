import java.lang.reflect.Constructor;
import java.lang.reflect.Field;
import java.lang.reflect.Method;
import java.lang.reflect.Modifier;
import java.util.Arrays;
import java.util.Set;
import java.util.TreeSet;

/** The class has the document's public face and no other member that is seen from outside. */
public final class FaceTest {
    private static final String[] METHODS = {
        "public boolean force(int)",
        "public boolean readsFile(int, int)",
        "public boolean readsPart(int, int, int)",
        "public boolean set(int, boolean, long)",
        "public int build(int)",
        "public int cause(int)",
        "public int counted(int)",
        "public int failed(int, int)",
        "public int file(long)",
        "public int records(int)",
        "public int share() throws ArithmeticException",
        "public int state(int)",
        "public int step(long, long)",
        "public int total(int)",
        "public int touch(int)",
        "public long output(int, int) throws IllegalArgumentException, IllegalStateException",
        "public long record(int, int, int)"};

    public static void main(String[] args) {
        Class<EarlyCut> face = EarlyCut.class;
        Check.due("public and final", Modifier.isPublic(face.getModifiers()) && Modifier.isFinal(face.getModifiers()), true);
        Check.dueText("package and what is above it", face.getName() + " " + face.getSuperclass().getName()
            + " " + face.getInterfaces().length, "EarlyCut java.lang.Object 0");
        Check.dueText("methods", seenMethods(face).toString(), new TreeSet<>(Arrays.asList(METHODS)).toString());
        Check.dueText("fields", seenFields(face).toString(), "[public static final int NONE]");
        Check.dueText("constructors", constructors(face).toString(), "[public EarlyCut()]");
        Check.end();
    }

    private static Set<String> seenMethods(Class<?> face) {
        Set<String> seen = new TreeSet<>();
        for (Method m : face.getDeclaredMethods()) {
            if (!Modifier.isPrivate(m.getModifiers())) {
                seen.add(Modifier.toString(m.getModifiers()) + " " + m.getReturnType() + " " + m.getName()
                    + "(" + names(m.getParameterTypes()) + ")" + thrownBy(m));
            }
        }
        return seen;
    }

    private static String thrownBy(Method m) {
        Class<?>[] thrown = m.getExceptionTypes();
        return thrown.length == 0 ? "" : " throws " + names(thrown);
    }

    private static String names(Class<?>[] classes) {
        StringBuilder all = new StringBuilder();
        for (Class<?> c : classes) {
            all.append(all.length() == 0 ? "" : ", ").append(c.getSimpleName());
        }
        return all.toString();
    }

    private static Set<String> seenFields(Class<?> face) {
        Set<String> seen = new TreeSet<>();
        for (Field f : face.getDeclaredFields()) {
            if (!Modifier.isPrivate(f.getModifiers())) {
                seen.add(Modifier.toString(f.getModifiers()) + " " + f.getType() + " " + f.getName());
            }
        }
        return seen;
    }

    private static Set<String> constructors(Class<?> face) {
        Set<String> seen = new TreeSet<>();
        for (Constructor<?> c : face.getDeclaredConstructors()) {
            seen.add(c.toString());
        }
        return seen;
    }
}
