import java.lang.reflect.Constructor;
import java.lang.reflect.Field;
import java.lang.reflect.Method;
import java.lang.reflect.Modifier;
import java.util.Arrays;
import java.util.TreeSet;

/** The face: the document's members, and no other that is not private. */
public final class FaceTest {
    private static final String[] METHODS = {
        "int tune()", "int note(int,int,int)", "int query(int,int)", "int forget()", "int price(int,int)",
        "int type(long,int)", "int word()", "int fault()", "int find(int)", "int near(int,int)",
        "int found(int,int)", "int distance(int,int,int)", "long freight(int,int)", "long share(int,int)",
        "int families(int)", "int family(int)", "int told(int)"};

    public static void main(String[] args) {
        Class<TuneSearch> face = TuneSearch.class;
        Check.due("final", Modifier.isFinal(face.getModifiers()) ? 1 : 0, 1);
        Check.due("methods", shownMethods(face).toString(), new TreeSet<>(Arrays.asList(METHODS)).toString());
        Check.due("fields", shownFields(face).toString(), "[BAD, FULL, NONE]");
        Check.due("constructors", shownConstructors(face), 1);
        Check.due("NONE", TuneSearch.NONE, -1);
        Check.due("BAD", TuneSearch.BAD, -2);
        Check.due("FULL", TuneSearch.FULL, -3);
        Check.end();
    }

    private static TreeSet<String> shownMethods(Class<?> face) {
        TreeSet<String> shown = new TreeSet<>();
        for (Method m : face.getDeclaredMethods()) {
            if (!Modifier.isPrivate(m.getModifiers())) {
                StringBuilder s = new StringBuilder(m.getReturnType() + " " + m.getName() + "(");
                for (Class<?> p : m.getParameterTypes()) {
                    s.append(s.charAt(s.length() - 1) == '(' ? "" : ",").append(p);
                }
                shown.add(s.append(")").toString());
            }
        }
        return shown;
    }

    private static TreeSet<String> shownFields(Class<?> face) {
        TreeSet<String> shown = new TreeSet<>();
        for (Field f : face.getDeclaredFields()) {
            if (!Modifier.isPrivate(f.getModifiers())) {
                shown.add(f.getName());
            }
        }
        return shown;
    }

    private static int shownConstructors(Class<?> face) {
        int shown = 0;
        for (Constructor<?> c : face.getDeclaredConstructors()) {
            shown += Modifier.isPublic(c.getModifiers()) && c.getParameterCount() == 0 ? 1 : 10;
        }
        return shown;
    }
}
