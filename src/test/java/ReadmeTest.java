import java.io.IOException;
import java.lang.reflect.Method;
import java.lang.reflect.Modifier;
import java.nio.file.Files;
import java.nio.file.Path;
import java.util.List;
import java.util.TreeSet;
import java.util.regex.Matcher;
import java.util.regex.Pattern;

/** What README.md shows: the face is the class's, and each call answers what its comment says. */
public final class ReadmeTest {
    private static final Calls CALLS = new Calls();
    private static final Pattern SHOWN_METHOD = Pattern.compile("\\s*public int (\\w+)\\((.*)\\) throws (\\w+);");
    private static final Pattern SHOWN_CALL = Pattern.compile("table\\.(.*\\));\\s*// (throws )?(\\w+).*");

    public static void main(String[] args) throws IOException {
        List<String> lines = Files.readAllLines(Path.of("README.md"));
        face(lines);
        calls(lines);
        CALLS.end();
    }

    private static void face(List<String> lines) {
        TreeSet<String> shown = new TreeSet<>();
        for (String line : lines) {
            Matcher method = SHOWN_METHOD.matcher(line);
            if (method.matches()) {
                String types = method.group(2).replaceAll("int \\w+", "int").replace(" ", "");
                shown.add(method.group(1) + "(" + types + ") throws " + method.group(3));
            }
        }
        TreeSet<String> real = new TreeSet<>();
        for (Method method : StartTable.class.getDeclaredMethods()) {
            if (Modifier.isPublic(method.getModifiers())) {
                real.add(method.toString().replace("public int StartTable.", "").replace("java.lang.", ""));
            }
        }
        CALLS.due("the face that README.md shows", shown.toString(), real.toString());
    }

    private static void calls(List<String> lines) {
        StartTable table = new StartTable();
        TreeSet<String> shown = new TreeSet<>();
        for (String line : lines) {
            Matcher call = SHOWN_CALL.matcher(line);
            if (call.matches()) {
                String want = call.group(2) == null ? call.group(3) : "throws." + call.group(3);
                CALLS.due("README.md: " + call.group(1), Calls.answer(table, call.group(1)), want);
                shown.add(call.group(1).substring(0, call.group(1).indexOf('(')));
            } else if (line.startsWith("table.")) {
                CALLS.due("README.md: " + line, "no answer", "an answer in a comment");
            }
        }
        CALLS.due("the methods with an example", shown.toString(),
                "[begin, begins, count, cut, join, make, size, space, start]");
    }
}
