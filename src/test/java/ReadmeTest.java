import java.lang.reflect.Method;
import java.nio.file.Files;
import java.nio.file.Path;
import java.util.regex.Matcher;
import java.util.regex.Pattern;

/** README.md's example is played line by line: each call answers what stands behind it. */
public final class ReadmeTest {
    private static final Pattern LINE = Pattern.compile("for \\(char c : \"(.*)\"\\.toCharArray\\(\\)\\) desk\\.write\\(c\\);");
    private static final Pattern CALL = Pattern.compile("desk\\.(\\w+)\\((.*)\\);\\s+// (-?\\d+|true|false)\\b.*");

    public static void main(String[] args) throws Exception {
        String readme = Files.readString(Path.of("README.md"));
        int from = readme.indexOf("```java\n") + 8;
        String[] lines = readme.substring(from, readme.indexOf("```\n", from)).split("\n");
        Check.isTrue("the example makes a desk", lines[0].equals("RepairDesk desk = new RepairDesk();"));
        RepairDesk desk = new RepairDesk();
        int calls = 0;
        for (int i = 1; i < lines.length; i++) {
            calls += play(desk, lines[i]);
        }
        Check.isTrue("the example has calls", calls > 10);
        Check.end();
    }

    /** How many calls with an answer there are in a line. */
    private static int play(RepairDesk desk, String line) throws Exception {
        Matcher written = LINE.matcher(line);
        if (written.matches()) {
            for (char c : written.group(1).toCharArray()) {
                Check.isTrue(line, desk.write(c));
            }
            return 0;
        }
        Matcher call = CALL.matcher(line);
        Check.isTrue("the line is a call with its answer: " + line, call.matches());
        if (!call.matches()) {
            return 0;
        }
        String answer = String.valueOf(answerOf(desk, call.group(1), call.group(2)));
        Check.isTrue(line + " answered " + answer, answer.equals(call.group(3)));
        return 1;
    }

    private static Object answerOf(RepairDesk desk, String name, String written) throws Exception {
        String[] signs = written.isEmpty() ? new String[0] : written.split(", ");
        Object[] values = new Object[signs.length];
        for (int i = 0; i < signs.length; i++) {
            boolean isTruth = signs[i].equals("true") || signs[i].equals("false");
            values[i] = isTruth ? (Object) Boolean.valueOf(signs[i]) : Integer.valueOf(signs[i]);
        }
        for (Method method : RepairDesk.class.getDeclaredMethods()) {
            if (method.getName().equals(name)) {
                return method.invoke(desk, values);
            }
        }
        return "no such method";
    }
}
