import java.io.IOException;
import java.lang.reflect.Method;
import java.lang.reflect.Modifier;
import java.nio.file.DirectoryStream;
import java.nio.file.Files;
import java.nio.file.Path;
import java.util.List;
import java.util.regex.Matcher;
import java.util.regex.Pattern;

/** What README.md says is so: its calls answer as they say, and it names every call and every test. */
public final class ReadmeTest {
    private static final Checks CHECKS = new Checks();
    private static final Path TESTS = Path.of("src/test/java");
    private static final Pattern CALL = Pattern.compile(
            "(?:int ember = )?hearths\\.(\\w+)\\((\\w+)(?:, (\\d+))?\\); +// (\\d+)(.*)");
    private static final Pattern LOW = Pattern.compile(".*; the low of the hearth is (\\d+) now");
    private static final String MADE = "RadixHearth hearths = new RadixHearth();";

    private final RadixHearth hearths = new RadixHearth();
    private int ember = -1;

    public static void main(String[] args) throws IOException, ReflectiveOperationException {
        List<String> lines = Files.readAllLines(Path.of("README.md"));
        int start = lines.indexOf(MADE);
        CHECKS.due("README.md makes an object", start >= 0, true);
        ReadmeTest test = new ReadmeTest();
        int calls = 0;
        for (int at = start + 1; start >= 0 && !lines.get(at).equals("```"); at++) {
            test.callOf(lines.get(at));
            calls++;
        }
        CHECKS.due("README.md makes calls", calls > 0, true);
        String page = String.join("\n", lines);
        namesEveryCall(page);
        namesEveryTest(page);
        CHECKS.end("ReadmeTest");
    }

    private void callOf(String line) throws ReflectiveOperationException {
        Matcher call = CALL.matcher(line);
        CHECKS.due("README.md tells the answer: " + line, call.matches(), true);
        if (!call.matches()) {
            return;
        }
        int first = call.group(2).equals("ember") ? ember : Integer.parseInt(call.group(2));
        int answer = call.group(3) == null ? answerOf(call.group(1), first)
                : answerOf(call.group(1), first, Integer.parseInt(call.group(3)));
        CHECKS.due("README.md, " + line, answer, Integer.parseInt(call.group(4)));
        if (line.startsWith("int ember = ")) {
            ember = answer;
        }
        Matcher low = LOW.matcher(call.group(5));
        if (low.matches()) {
            CHECKS.due("README.md, low, " + line, hearths.about(first, 1), Integer.parseInt(low.group(1)));
        }
    }

    private int answerOf(String name, int only) throws ReflectiveOperationException {
        return (Integer) RadixHearth.class.getMethod(name, int.class).invoke(hearths, only);
    }

    private int answerOf(String name, int first, int second) throws ReflectiveOperationException {
        return (Integer) RadixHearth.class.getMethod(name, int.class, int.class).invoke(hearths, first, second);
    }

    private static void namesEveryCall(String page) {
        for (Method method : RadixHearth.class.getDeclaredMethods()) {
            if (Modifier.isPublic(method.getModifiers())) {
                CHECKS.due("README.md names " + method.getName(), page.contains("`" + method.getName() + "`"), true);
            }
        }
    }

    private static void namesEveryTest(String page) throws IOException {
        try (DirectoryStream<Path> files = Files.newDirectoryStream(TESTS, "*Test.java")) {
            for (Path file : files) {
                String name = file.getFileName().toString().replace(".java", "");
                CHECKS.due("README.md names " + name, page.contains("`" + name + "`"), true);
            }
        }
    }
}
