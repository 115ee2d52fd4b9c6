import java.lang.reflect.Constructor;
import java.lang.reflect.Field;
import java.lang.reflect.Method;
import java.lang.reflect.Modifier;
import java.util.ArrayList;
import java.util.List;
import java.util.Set;
import java.util.TreeSet;

/** The document's public face, and those rules of LANGUAGE.md that the compiled class shows. */
public final class FaceTest {
    private static final Due due = new Due("FaceTest");
    private static final Set<String> FACE = Set.of(
        "int scene(int, int, int, int)", "long ofScene(int, int)", "int move(int, int)", "int shift(int)",
        "int stretch(int, int)", "int clue(int, int, int, boolean)", "int ofClue(int, int)", "int drop()",
        "int fee(int)", "long jump(int, int)", "long span(int)", "int add(int)", "int cut(int)",
        "int judge(int)", "int jumps()", "int told(int, int)", "int order(int)", "int framed(int)",
        "int untangled()", "int many(int)");
    private static final Set<Class<?>> CONSTANT_TYPES = Set.of(
        int.class, long.class, boolean.class, char.class, String.class,
        int[].class, long[].class, char[].class, byte[].class);

    public static void main(String[] args) {
        classItself();
        methods();
        constants();
        constructors();
        for (Class<?> inner : ToldScenes.class.getDeclaredClasses()) {
            innerClass(inner);
        }
        List<Class<?>> all = new ArrayList<>(List.of(ToldScenes.class.getDeclaredClasses()));
        all.add(ToldScenes.class);
        due.holds("at most twelve classes", all.size() <= 12);
        for (Class<?> one : all) {
            limits(one);
        }
        due.end();
    }

    private static void classItself() {
        due.part("the class");
        int how = ToldScenes.class.getModifiers();
        due.holds("public", Modifier.isPublic(how));
        due.holds("final", Modifier.isFinal(how));
        due.holds("above it only Object", ToldScenes.class.getSuperclass() == Object.class);
        due.is("interfaces", ToldScenes.class.getInterfaces().length, 0);
    }

    private static String told(Method m) {
        StringBuilder text = new StringBuilder(m.getReturnType() + " " + m.getName() + "(");
        for (int i = 0; i < m.getParameterCount(); i++) {
            text.append(i == 0 ? "" : ", ").append(m.getParameterTypes()[i]);
        }
        return text.append(")").toString();
    }

    private static void methods() {
        due.part("methods");
        Set<String> shown = new TreeSet<>();
        for (Method m : ToldScenes.class.getDeclaredMethods()) {
            if (Modifier.isPrivate(m.getModifiers())) {
                continue;
            }
            shown.add(told(m));
            due.holds(m + " is public and not static",
                Modifier.isPublic(m.getModifiers()) && !Modifier.isStatic(m.getModifiers()));
            due.is(m + " declares exceptions", m.getExceptionTypes().length, 0);
        }
        due.holds("as the document says: " + shown, shown.equals(FACE));
    }

    private static void constants() {
        due.part("constants");
        due.is("UNKNOWN", ToldScenes.UNKNOWN, -1);
        due.is("OUTSIDE", ToldScenes.OUTSIDE, -2);
        due.is("STATE", ToldScenes.STATE, -3);
        due.is("FULL", ToldScenes.FULL, -4);
        due.is("OVER", ToldScenes.OVER, -5);
        due.is("NONE", ToldScenes.NONE, -9);
        due.is("LOST", ToldScenes.LOST, Long.MIN_VALUE);
        Set<String> shown = new TreeSet<>();
        for (Field f : ToldScenes.class.getDeclaredFields()) {
            if (!Modifier.isPrivate(f.getModifiers())) {
                shown.add(f.getType() + " " + f.getName());
                due.holds(f + " is public, static, final", f.getModifiers() == (Modifier.PUBLIC | Modifier.STATIC | Modifier.FINAL));
            }
        }
        due.holds("as the document says: " + shown, shown.equals(Set.of("int UNKNOWN", "int OUTSIDE", "int STATE",
            "int FULL", "int OVER", "int NONE", "long LOST")));
    }

    private static void constructors() {
        due.part("constructors");
        Constructor<?>[] all = ToldScenes.class.getDeclaredConstructors();
        due.is("how many", all.length, 1);
        due.holds("public", Modifier.isPublic(all[0].getModifiers()));
        due.is("parameters", all[0].getParameterCount(), 0);
    }

    private static void innerClass(Class<?> inner) {
        due.part(inner.getName());
        int how = inner.getModifiers();
        due.holds("static", Modifier.isStatic(how));
        due.holds("not public, not protected", !Modifier.isPublic(how) && !Modifier.isProtected(how));
    }

    private static void limits(Class<?> one) {
        due.part(one.getName());
        int fields = 0;
        for (Field f : one.getDeclaredFields()) {
            if (Modifier.isStatic(f.getModifiers())) {
                due.holds(f + " is final", Modifier.isFinal(f.getModifiers()));
                due.holds(f + " is of a constant's type", CONSTANT_TYPES.contains(f.getType()));
            } else {
                fields++;
            }
        }
        due.holds("at most twenty fields", fields <= 20);
        for (Method m : one.getDeclaredMethods()) {
            due.holds(m + " has at most seven parameters", m.getParameterCount() <= 7);
            boolean named = FACE.stream().anyMatch(face -> face.contains(" " + m.getName() + "("));
            boolean ofFace = one == ToldScenes.class && Modifier.isPublic(m.getModifiers());
            due.holds(m + " does not bear a public method's name", ofFace || !named);
        }
    }
}
