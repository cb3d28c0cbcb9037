import java.lang.reflect.Method;
import java.nio.file.Files;
import java.nio.file.Path;
import java.util.regex.Matcher;
import java.util.regex.Pattern;

/** The calls that README.md shows, in their order, on one object: each answers what stands behind it. */
public final class ReadmeTest {
    private static final Pattern CALL = Pattern.compile("wire\\.(\\w+)\\((.*?)\\);\\s+// (-?\\w+).*");

    public static void main(String[] args) throws Exception {
        EvenWords wire = new EvenWords();
        int shown = 0;
        int wrong = 0;
        for (String line : Files.readAllLines(Path.of("README.md"))) {
            Matcher call = CALL.matcher(line);
            if (call.matches()) {
                shown++;
                int got = answer(wire, call.group(1), call.group(2));
                if (got != number(call.group(3))) {
                    wrong++;
                    System.out.println(line + " -- answered " + got);
                }
            }
        }
        System.out.println(shown + " calls shown, " + wrong + " not as shown");
        if (wrong != 0 || shown == 0) {
            System.exit(1);
        }
    }

    private static int answer(EvenWords wire, String name, String told) throws Exception {
        String[] words = told.isEmpty() ? new String[0] : told.split(", ");
        Object[] numbers = new Object[words.length];
        for (int i = 0; i < words.length; i++) {
            numbers[i] = words[i].startsWith("'") ? (int) words[i].charAt(1) : number(words[i]);
        }
        for (Method m : EvenWords.class.getMethods()) {
            if (m.getName().equals(name) && m.getParameterCount() == numbers.length) {
                return (int) m.invoke(wire, numbers);
            }
        }
        throw new IllegalStateException("no call " + name);
    }

    private static int number(String word) throws Exception {
        return word.matches("-?\\d+") ? Integer.parseInt(word) : EvenWords.class.getField(word).getInt(null);
    }
}
