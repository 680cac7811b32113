import java.io.IOException;
import java.lang.reflect.Method;
import java.lang.reflect.Modifier;
import java.nio.charset.StandardCharsets;
import java.nio.file.Files;
import java.nio.file.Path;
import java.util.ArrayList;
import java.util.Arrays;
import java.util.HashSet;
import java.util.List;
import java.util.Set;
import java.util.regex.Matcher;
import java.util.regex.Pattern;

/** README.md holds what is so: its example is run, its code is that of the tests, and it leaves out no call. */
public final class ReadmeTest {
    private static final Check CHECK = new Check("ReadmeTest");

    public static void main(String[] args) {
        CHECK.runAll(ReadmeTest.class);
    }

    private static String read(String file) {
        try {
            return Files.readString(Path.of(file), StandardCharsets.US_ASCII);
        } catch (IOException thrown) {
            throw new IllegalStateException(file + " can't be read as ASCII", thrown);
        }
    }

    private static String block(String kind) {
        Matcher block = Pattern.compile("(?s)```" + kind + "\n(.*?)```").matcher(read("README.md"));
        return block.find() ? block.group(1) : "";
    }

    /** The rows of the example, one behind the other on one object, which begins with the example's text on its TAPE. */
    static void theExampleAnswersAsItSays() throws ReflectiveOperationException {
        YearHands x = new YearHands();
        Check.put(x, block("text"));
        Matcher row = Pattern.compile("(?m)^\\| `x\\.(\\w+)\\(([^`]*)\\)` \\| ([^| ]+) \\|").matcher(read("README.md"));
        int rows = 0;
        while (row.find()) {
            rows++;
            CHECK.due("row " + rows + ": " + row.group(1) + "(" + row.group(2) + ")",
                call(x, row.group(1), row.group(2)), number(row.group(3)));
        }
        CHECK.due("rows are found", rows > 50, true);
    }

    private static int call(YearHands x, String name, String given) throws ReflectiveOperationException {
        List<Object> numbers = new ArrayList<>();
        for (String number : given.split(", ")) {
            if (!number.isEmpty()) {
                numbers.add(number(number));
            }
        }
        Class<?>[] kinds = new Class<?>[numbers.size()];
        Arrays.fill(kinds, int.class);
        return number("" + YearHands.class.getMethod(name, kinds).invoke(x, numbers.toArray()));
    }

    private static int number(String told) {
        switch (told) {
            case "NONE": return YearHands.NONE;
            case "GAP": return YearHands.GAP;
            case "true": return 1;
            case "false": return 0;
            default: return Integer.decode(told);
        }
    }

    static void theCodeIsThatOfTheTests() {
        Set<String> known = new HashSet<>(Arrays.asList(read("src/test/java/Check.java").split("\n")));
        String[] lines = block("java").split("\n");
        CHECK.due("lines are found", lines.length > 10, true);
        for (String line : lines) {
            CHECK.due("Check.java has the line " + line, known.contains(line), true);
        }
    }

    static void eachCallIsTold() {
        String text = read("README.md");
        for (Method method : YearHands.class.getDeclaredMethods()) {
            if (Modifier.isPublic(method.getModifiers())) {
                boolean told = Pattern.compile("`" + method.getName() + "\\(").matcher(text).find();
                CHECK.due("README.md tells " + method.getName(), told, true);
            }
        }
    }

    static void eachTestThatIsNamedIsThere() {
        Matcher name = Pattern.compile("\\b[A-Z]\\w+Test\\b").matcher(read("README.md") + read("NOTES.md"));
        while (name.find()) {
            boolean kind = name.group().equals("BoundsTest");
            boolean there = kind || Files.exists(Path.of("src/test/java", name.group() + ".java"));
            CHECK.due(name.group() + " is there", there, true);
        }
    }
}
