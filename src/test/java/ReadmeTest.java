import java.io.IOException;
import java.lang.reflect.Method;
import java.nio.file.Files;
import java.nio.file.Path;
import java.util.ArrayList;
import java.util.Arrays;
import java.util.List;
import java.util.regex.Matcher;
import java.util.regex.Pattern;

/** The calls that README.md shows, in its order: each answers what stands behind it there. */
public final class ReadmeTest {
    private static final TestHelp HELP = new TestHelp();
    private static final Pattern NEW = Pattern.compile("NineReaders x = new NineReaders\\(\\);");
    private static final Pattern TEXT = Pattern.compile("put\\(x, \"([^\"]*)\"\\);");
    private static final Pattern BYTES = Pattern.compile("put\\(x, ([0-9, ]+)\\);");
    private static final Pattern CALL = Pattern.compile("x\\.(\\w+)\\(([0-9, ]*)\\); +// (-?\\d+|true|false)(:.*)?");

    private NineReaders x;
    private int calls;

    public static void main(String[] args) throws IOException, ReflectiveOperationException {
        Path root = Path.of(System.getProperty("root", "."));
        List<List<String>> blocks = blocks(Files.readAllLines(root.resolve("README.md")));
        HELP.due("blocks of Java in README.md", blocks.size(), 2);
        String helper = Files.readString(root.resolve(Path.of("src", "test", "java", "TestHelp.java")));
        HELP.due("put and word stand in TestHelp.java", helper.contains(String.join("\n", blocks.get(0))), true);
        new ReadmeTest().play(blocks.get(1));
        HELP.finish();
    }

    private static List<List<String>> blocks(List<String> lines) {
        List<List<String>> blocks = new ArrayList<>();
        boolean inside = false;
        for (String line : lines) {
            if (line.startsWith("```")) {
                inside = !inside;
                if (inside) {
                    blocks.add(new ArrayList<>());
                }
            } else if (inside) {
                blocks.get(blocks.size() - 1).add(line);
            }
        }
        return blocks;
    }

    private void play(List<String> lines) throws ReflectiveOperationException {
        for (String line : lines) {
            Matcher text = TEXT.matcher(line);
            Matcher bytes = BYTES.matcher(line);
            Matcher call = CALL.matcher(line);
            if (NEW.matcher(line).matches()) {
                x = new NineReaders();
            } else if (text.matches()) {
                TestHelp.put(x, text.group(1));
            } else if (bytes.matches()) {
                TestHelp.put(x, numbers(bytes.group(1)));
            } else if (call.matches()) {
                HELP.due(line, answer(call.group(1), numbers(call.group(2))), number(call.group(3)));
                calls++;
            } else {
                HELP.due("a line that is no call: " + line, line.isEmpty(), true);
            }
        }
        HELP.due("calls are shown", calls > 30, true);
    }

    private static int[] numbers(String row) {
        return row.isEmpty() ? new int[0] : Arrays.stream(row.split(", *")).mapToInt(Integer::parseInt).toArray();
    }

    private static long number(String answer) {
        return answer.equals("true") ? 1 : answer.equals("false") ? 0 : Integer.parseInt(answer);
    }

    private long answer(String name, int[] arguments) throws ReflectiveOperationException {
        for (Method method : NineReaders.class.getMethods()) {
            if (method.getName().equals(name) && method.getParameterCount() == arguments.length) {
                Object answer = method.invoke(x, Arrays.stream(arguments).boxed().toArray());
                return answer instanceof Boolean so ? (so ? 1 : 0) : (Integer) answer;
            }
        }
        throw new NoSuchMethodException(name);
    }
}
