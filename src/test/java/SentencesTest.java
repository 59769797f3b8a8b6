import java.lang.reflect.Method;
import java.nio.file.Files;
import java.nio.file.Path;
import java.util.Arrays;
import java.util.regex.Matcher;
import java.util.regex.Pattern;

/** TESTS.md names tests that are there, leaves none of those of a term or a promise out, and has a row for each of these. */
public final class SentencesTest {
    private static final Pattern TEST = Pattern.compile("`(\\w+Test)\\.(\\w+)`");
    private static final String[] TESTS = {
        "TapeTest", "PressTest", "OpenTest", "StreamTest", "UnstreamTest",
        "TapeEdgesTest", "PressEdgesTest", "OpenEdgesTest", "StreamEdgesTest", "UnstreamEdgesTest", "RefusedTest", "StaysTest"
    };
    private static final String[] TERMS = {"I", "II", "III", "IV"};
    private static final int PROMISES = 18;

    public static void main(String[] args) throws Exception {
        String table = Files.readString(Path.of("TESTS.md"));
        Matcher found = TEST.matcher(table);
        int named = 0;
        while (found.find()) {
            named++;
            String method = found.group(2);
            Method[] there = Class.forName(found.group(1)).getDeclaredMethods();
            Due.holds(found.group() + " is there", Arrays.stream(there).anyMatch(m -> m.getName().equals(method)));
        }
        Due.holds("tests are named: " + named, named > 0);
        for (String test : TESTS) {
            everyTestIsNamed(test, table);
        }
        for (String term : TERMS) {
            Due.holds("term " + term + " has a row", table.contains("\n| " + term + ": "));
        }
        for (int promise = 1; promise <= PROMISES; promise++) {
            Due.holds("promise " + promise + " has a row", table.contains("\n| " + promise + ": "));
        }
        Due.end("SentencesTest");
    }

    /** A test is a method without arguments that answers nothing. */
    private static void everyTestIsNamed(String test, String table) throws Exception {
        for (Method m : Class.forName(test).getDeclaredMethods()) {
            if (m.getParameterCount() == 0 && m.getReturnType() == void.class) {
                Due.holds(test + "." + m.getName() + " is named", table.contains("`" + test + "." + m.getName() + "`"));
            }
        }
    }
}
