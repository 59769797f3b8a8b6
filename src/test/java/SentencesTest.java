import java.lang.reflect.Method;
import java.nio.file.Files;
import java.nio.file.Path;
import java.util.Arrays;
import java.util.regex.Matcher;
import java.util.regex.Pattern;

/** TESTS.md names tests that are there, and leaves none of the edge tests out. */
public final class SentencesTest {
    private static final Pattern TEST = Pattern.compile("`(\\w+Test)\\.(\\w+)`");
    private static final String[] EDGES = {"TapeEdgesTest", "PressEdgesTest", "OpenEdgesTest", "StreamEdgesTest", "UnstreamEdgesTest"};

    public static void main(String[] args) throws Exception {
        String table = Files.readString(Path.of("TESTS.md"));
        Matcher found = TEST.matcher(table);
        int named = 0;
        while (found.find()) {
            named++;
            String method = found.group(2);
            Method[] there = Class.forName(found.group(1)).getDeclaredMethods();
            Due.holds(found.group() + " is there", Arrays.stream(there).anyMatch(m -> m.getName().equals(method)));
        }
        Due.holds("tests are named: " + named, named > 0);
        for (String edges : EDGES) {
            everyTestIsNamed(edges, table);
        }
        Due.end("SentencesTest");
    }

    /** A test is a method without arguments that answers nothing. */
    private static void everyTestIsNamed(String edges, String table) throws Exception {
        for (Method m : Class.forName(edges).getDeclaredMethods()) {
            if (m.getParameterCount() == 0 && m.getReturnType() == void.class) {
                Due.holds(edges + "." + m.getName() + " is named", table.contains("`" + edges + "." + m.getName() + "`"));
            }
        }
    }
}
