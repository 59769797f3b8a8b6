import java.io.File;
import java.lang.reflect.InvocationTargetException;
import java.lang.reflect.Method;
import java.lang.reflect.Modifier;
import java.nio.file.Files;
import java.nio.file.Path;
import java.util.HashSet;
import java.util.Set;
import java.util.regex.Matcher;
import java.util.regex.Pattern;

/** README.md names every call and every test, and its examples answer as it says. */
public final class ReadmeTest {
    private static final Pattern EXAMPLE = Pattern.compile("```java\n(.*?)```", Pattern.DOTALL);
    private static final Pattern CALL = Pattern.compile("house\\.(\\w+)\\(([^)]*)\\); +// (-?\\w+)(: .*)?");
    private static final String MADE = "SnapHouse house = new SnapHouse();";

    private static final Set<String> called = new HashSet<>();

    public static void main(String[] args) throws Exception {
        String readme = Files.readString(Path.of("README.md"));
        Matcher found = EXAMPLE.matcher(readme);
        while (found.find()) {
            makeCalls(found.group(1));
        }
        everyCallIsNamed(readme);
        everyTestIsNamed(readme);
        Due.end("ReadmeTest");
    }

    private static void makeCalls(String example) throws Exception {
        SnapHouse house = new SnapHouse();
        String[] lines = example.split("\n");
        Due.holds("an object is made first, not " + lines[0], lines[0].equals(MADE));
        for (int k = 1; k < lines.length; k++) {
            Matcher call = CALL.matcher(lines[k]);
            Due.holds("a call with its answer: " + lines[k], call.matches());
            if (call.matches()) {
                called.add(call.group(1));
                Due.holds(lines[k], answer(house, call.group(1), call.group(2)).equals(plain(call.group(3))));
            }
        }
    }

    /** The number that the call answers, or the name of what it throws. */
    private static String answer(SnapHouse house, String name, String given) throws Exception {
        String[] words = given.isEmpty() ? new String[0] : given.split(", ");
        Object[] arguments = new Object[words.length];
        Class<?>[] types = new Class<?>[words.length];
        for (int k = 0; k < words.length; k++) {
            boolean truth = words[k].equals("true") || words[k].equals("false");
            types[k] = truth ? boolean.class : int.class;
            arguments[k] = truth ? (Object) Boolean.valueOf(words[k]) : (Object) number(words[k]);
        }
        try {
            return String.valueOf(SnapHouse.class.getMethod(name, types).invoke(house, arguments));
        } catch (InvocationTargetException e) {
            return e.getCause().getClass().getSimpleName();
        }
    }

    private static Integer number(String word) {
        return Long.decode(word).intValue();
    }

    private static String plain(String answer) {
        return answer.matches("[A-Z].*") ? answer : String.valueOf(number(answer));
    }

    private static void everyCallIsNamed(String readme) {
        for (Method m : SnapHouse.class.getDeclaredMethods()) {
            if (Modifier.isPublic(m.getModifiers())) {
                Due.holds(m.getName() + " has a row", readme.contains("\n| `" + m.getName() + "("));
                Due.holds(m.getName() + " has an example", called.contains(m.getName()));
            }
        }
    }

    private static void everyTestIsNamed(String readme) {
        for (String file : new File("src/test/java").list((in, name) -> name.endsWith("Test.java"))) {
            String test = file.substring(0, file.length() - ".java".length());
            Due.holds(test + " has its row", readme.contains("`" + test + "`"));
        }
    }
}
