import java.lang.reflect.Constructor;
import java.lang.reflect.Field;
import java.lang.reflect.Method;
import java.lang.reflect.Modifier;
import java.nio.file.Files;
import java.nio.file.Path;
import java.util.ArrayList;
import java.util.Arrays;
import java.util.List;
import java.util.TreeSet;
import java.util.regex.Matcher;
import java.util.regex.Pattern;

/** The public face of the document, and those rules of ../shared/LANGUAGE.md that a program can look at. */
public final class FaceTest {
    private static final String[] METHODS = {
        "type(int)", "clear()", "tells()", "sends(int)", "marks(int)", "flips(int)", "clears()", "undo()",
        "form(int, int)", "bit(int)", "word(int)", "recent(int)", "piece(int, int, int, int)",
        "read(int, int, int)", "cuts(int)", "level(int, int)", "evenest(int, int)", "weight(int)",
        "keep(int)", "back(int)", "count(int)",
    };
    private static final String[] CONSTANTS = {"BAD", "STATE", "FULL", "NONE", "NO", "NOT"};
    private static final String[] FORBIDDEN = {
        "throw", "throws", "try", "catch", "finally", "synchronized", "assert", "import", "package", "native",
        "volatile", "transient", "instanceof", "record", "var", "yield",
    };

    private static int wrong = 0;

    private static void check(boolean stands, String what) {
        if (!stands) {
            wrong++;
            System.out.println("does not stand: " + what);
        }
    }

    public static void main(String[] args) throws Exception {
        classAndConstructor();
        methods();
        fields();
        classesInside();
        source();
        System.out.println(wrong == 0 ? "the face and the rules stand" : wrong + " do not stand");
        if (wrong != 0) {
            System.exit(1);
        }
    }

    private static void classAndConstructor() {
        int modifiers = EvenWords.class.getModifiers();
        check(Modifier.isPublic(modifiers) && Modifier.isFinal(modifiers), "the class is public and final");
        check(EvenWords.class.getSuperclass() == Object.class, "the class extends nothing");
        check(EvenWords.class.getInterfaces().length == 0, "the class implements nothing");
        Constructor<?>[] all = EvenWords.class.getDeclaredConstructors();
        check(all.length == 1 && Modifier.isPublic(all[0].getModifiers()) && all[0].getParameterCount() == 0,
            "one constructor, public, without parameters");
    }

    private static void methods() {
        List<String> open = new ArrayList<>();
        for (Method m : EvenWords.class.getDeclaredMethods()) {
            if (!Modifier.isPrivate(m.getModifiers())) {
                String types = Arrays.toString(m.getParameterTypes());
                open.add(m.getName() + "(" + types.substring(1, types.length() - 1) + ")");
                check(m.getReturnType() == int.class, m.getName() + " answers an int");
                check(Modifier.isPublic(m.getModifiers()) && !Modifier.isStatic(m.getModifiers()),
                    m.getName() + " is public and of an object");
            }
        }
        check(new TreeSet<>(open).equals(new TreeSet<>(Arrays.asList(METHODS))), "the methods are the face's: " + open);
        check(open.size() == METHODS.length, "each method stands once");
    }

    private static void fields() {
        List<String> open = new ArrayList<>();
        for (Field f : EvenWords.class.getDeclaredFields()) {
            int modifiers = f.getModifiers();
            if (!Modifier.isPrivate(modifiers)) {
                open.add(f.getName());
                check(Modifier.isPublic(modifiers) && Modifier.isStatic(modifiers) && Modifier.isFinal(modifiers)
                    && f.getType() == int.class, f.getName() + " is a public constant");
            }
        }
        check(new TreeSet<>(open).equals(new TreeSet<>(Arrays.asList(CONSTANTS))), "the constants are the face's: " + open);
    }

    private static void classesInside() {
        Class<?>[] inside = EvenWords.class.getDeclaredClasses();
        check(inside.length <= 12, "at most some twelve classes");
        TreeSet<String> face = new TreeSet<>();
        for (String method : METHODS) {
            face.add(method.substring(0, method.indexOf('(')));
        }
        List<Class<?>> all = new ArrayList<>(Arrays.asList(inside));
        for (Class<?> c : inside) {
            int modifiers = c.getModifiers();
            check(Modifier.isStatic(modifiers), c + " is static");
            check(!Modifier.isPublic(modifiers) && !Modifier.isProtected(modifiers), c + " is not open");
            check(c.getDeclaredClasses().length == 0, c + " has no class inside");
            for (Method m : c.getDeclaredMethods()) {
                check(!face.contains(m.getName()), c + "." + m.getName() + " bears a name of the face");
            }
        }
        all.add(EvenWords.class);
        for (Class<?> c : all) {
            int own = 0;
            for (Field f : c.getDeclaredFields()) {
                int modifiers = f.getModifiers();
                if (Modifier.isStatic(modifiers)) {
                    check(Modifier.isFinal(modifiers), c + "." + f.getName() + " is final");
                } else {
                    own++;
                }
            }
            check(own <= 20, c + " has at most some twenty fields");
            for (Method m : c.getDeclaredMethods()) {
                check(m.getParameterCount() <= 7, m + " takes at most seven parameters");
                check(!m.isSynthetic(), m + " is written, not made (a lambda)");
            }
        }
    }

    private static void source() throws Exception {
        String text = Files.readString(Path.of("src/main/java/EvenWords.java"));
        check(text.chars().allMatch(c -> c < 128), "plain signs alone");
        String code = text.replaceAll("(?s)/\\*.*?\\*/", " ").replaceAll("//[^\n]*", " ");
        for (String word : FORBIDDEN) {
            check(!Pattern.compile("\\b" + word + "\\b").matcher(code).find(), "no " + word);
        }
        check(!code.contains("->") && !code.contains("::"), "no lambda, no method reference");
        check(!code.contains("\""), "no text is needed");
        check(!code.contains("Exact"), "no function whose name ends in Exact");
        Matcher library = Pattern.compile("\\b(java|System|Math|Integer|Long|Arrays|Thread|Runtime)\\.(\\w+)").matcher(code);
        while (library.find()) {
            String call = library.group();
            check(List.of("Integer.bitCount", "Math.max", "Math.min").contains(call), "of the library: " + call);
        }
        methodLengths(code);
        loopEnds(code);
    }

    /** A loop's end is seen from its own lines: its head holds something against a bound. */
    private static void loopEnds(String code) {
        for (String line : code.split("\n")) {
            if (line.matches("\\s*(for|while|do)\\b.*")) {
                check(line.matches(".* (<|<=|>|>=) .*"), "a loop with a bound: " + line.trim());
            }
        }
    }

    private static void methodLengths(String code) {
        int begun = -1;
        String[] lines = code.split("\n");
        for (int i = 0; i < lines.length; i++) {
            String line = lines[i];
            if (line.matches("\\s+.*\\) \\{") && !line.matches("\\s*(\\} else )?(if|for|while|switch) .*")) {
                begun = i;
            }
            boolean ends = line.matches(" {4}( {4})?\\}");
            if (ends && begun >= 0) {
                check(i - begun < 60, "a method of at most sixty lines: " + lines[begun].trim());
                begun = -1;
            }
        }
    }
}
