import java.lang.reflect.Constructor;
import java.lang.reflect.Field;
import java.lang.reflect.Method;
import java.lang.reflect.Modifier;
import java.util.ArrayList;
import java.util.Arrays;
import java.util.List;
import java.util.TreeSet;

/** The public face of the document; nothing else of the class is open, and nothing inside bears a name of the face. */
public final class FaceTest {
    private static final String[] METHODS = {
        "type(int)", "clear()", "tells()", "sends(int)", "marks(int)", "flips(int)", "clears()", "undo()",
        "form(int, int)", "bit(int)", "word(int)", "recent(int)", "piece(int, int, int, int)",
        "read(int, int, int)", "cuts(int)", "level(int, int)", "evenest(int, int)", "weight(int)",
        "keep(int)", "back(int)", "count(int)",
    };
    private static final String[] CONSTANTS = {"BAD", "STATE", "FULL", "NONE", "NO", "NOT"};

    private static int wrong = 0;

    private static void check(boolean stands, String what) {
        if (!stands) {
            wrong++;
            System.out.println("does not stand: " + what);
        }
    }

    public static void main(String[] args) {
        classAndConstructor();
        methods();
        fields();
        classesInside();
        System.out.println(wrong == 0 ? "the face stands" : wrong + " do not stand");
        if (wrong != 0) {
            System.exit(1);
        }
    }

    private static void classAndConstructor() {
        int modifiers = EvenWords.class.getModifiers();
        check(Modifier.isPublic(modifiers) && Modifier.isFinal(modifiers), "the class is public and final");
        check(EvenWords.class.getSuperclass() == Object.class, "the class extends nothing");
        check(EvenWords.class.getInterfaces().length == 0, "the class implements nothing");
        Constructor<?>[] all = EvenWords.class.getDeclaredConstructors();
        check(all.length == 1 && Modifier.isPublic(all[0].getModifiers()) && all[0].getParameterCount() == 0,
            "one constructor, public, without parameters");
    }

    private static void methods() {
        List<String> open = new ArrayList<>();
        for (Method m : EvenWords.class.getDeclaredMethods()) {
            if (!Modifier.isPrivate(m.getModifiers())) {
                String types = Arrays.toString(m.getParameterTypes());
                open.add(m.getName() + "(" + types.substring(1, types.length() - 1) + ")");
                check(m.getReturnType() == int.class, m.getName() + " answers an int");
                check(Modifier.isPublic(m.getModifiers()) && !Modifier.isStatic(m.getModifiers()),
                    m.getName() + " is public and of an object");
            }
        }
        check(new TreeSet<>(open).equals(new TreeSet<>(Arrays.asList(METHODS))), "the methods are the face's: " + open);
        check(open.size() == METHODS.length, "each method stands once");
    }

    private static void fields() {
        List<String> open = new ArrayList<>();
        for (Field f : EvenWords.class.getDeclaredFields()) {
            int modifiers = f.getModifiers();
            if (!Modifier.isPrivate(modifiers)) {
                open.add(f.getName());
                check(Modifier.isPublic(modifiers) && Modifier.isStatic(modifiers) && Modifier.isFinal(modifiers)
                    && f.getType() == int.class, f.getName() + " is a public constant");
            }
        }
        check(new TreeSet<>(open).equals(new TreeSet<>(Arrays.asList(CONSTANTS))), "the constants are the face's: " + open);
    }

    private static void classesInside() {
        Class<?>[] inside = EvenWords.class.getDeclaredClasses();
        check(inside.length <= 12, "at most some twelve classes");
        TreeSet<String> face = new TreeSet<>();
        for (String method : METHODS) {
            face.add(method.substring(0, method.indexOf('(')));
        }
        List<Class<?>> all = new ArrayList<>(Arrays.asList(inside));
        for (Class<?> c : inside) {
            int modifiers = c.getModifiers();
            check(Modifier.isStatic(modifiers), c + " is static");
            check(!Modifier.isPublic(modifiers) && !Modifier.isProtected(modifiers), c + " is not open");
            check(c.getDeclaredClasses().length == 0, c + " has no class inside");
            for (Method m : c.getDeclaredMethods()) {
                check(!face.contains(m.getName()), c + "." + m.getName() + " bears a name of the face");
            }
        }
        all.add(EvenWords.class);
        for (Class<?> c : all) {
            int own = 0;
            for (Field f : c.getDeclaredFields()) {
                int modifiers = f.getModifiers();
                if (Modifier.isStatic(modifiers)) {
                    check(Modifier.isFinal(modifiers), c + "." + f.getName() + " is final");
                } else {
                    own++;
                }
            }
            check(own <= 20, c + " has at most some twenty fields");
            for (Method m : c.getDeclaredMethods()) {
                check(m.getParameterCount() <= 7, m + " takes at most seven parameters");
                check(!m.isSynthetic(), m + " is written, not made (a lambda)");
            }
        }
    }
}
