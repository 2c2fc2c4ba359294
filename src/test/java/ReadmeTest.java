import java.io.IOException;
import java.lang.reflect.Method;
import java.lang.reflect.Modifier;
import java.nio.file.Files;
import java.nio.file.Path;
import java.util.ArrayList;
import java.util.List;
import java.util.Set;
import java.util.TreeSet;
import java.util.regex.Matcher;
import java.util.regex.Pattern;
import java.util.stream.Stream;

/** What README.md shows: every call in its Java answers what stands behind it, and it leaves out no method and no test. */
public final class ReadmeTest {
    private static final String NEW_OFFICE = "CloudOffice office = new CloudOffice();";
    private static final Pattern CALL = Pattern.compile("office\\.(\\w+)\\(([^()]*)\\); +// (-?\\d+)(: .+)?");

    public static void main(String[] args) throws IOException, ReflectiveOperationException {
        String text = Files.readString(Path.of("README.md"));
        Set<String> shown = new TreeSet<>();
        for (List<String> block : javaBlocks(text)) {
            runBlock(block, shown);
        }
        Due.isTrue("each method is shown: " + shown, shown.equals(methods()));
        Due.isTrue("how to run the tests is told", text.contains("`.ci/run`") && Files.isExecutable(Path.of(".ci/run")));
        Due.isTrue("each test and helper is told, and no other", namesIn(text).equals(testFiles()));
        Due.end();
    }

    private static List<List<String>> javaBlocks(String text) {
        List<List<String>> blocks = new ArrayList<>();
        Matcher block = Pattern.compile("(?ms)^```java\n(.*?)^```$").matcher(text);
        while (block.find()) {
            blocks.add(block.group(1).lines().toList());
        }
        return blocks;
    }

    /** A block stands by itself: it makes its office first. */
    private static void runBlock(List<String> lines, Set<String> shown) throws ReflectiveOperationException {
        CloudOffice office = new CloudOffice();
        Due.isTrue("a block begins with: " + NEW_OFFICE, lines.get(0).equals(NEW_OFFICE));
        for (String line : lines.subList(1, lines.size())) {
            Matcher call = CALL.matcher(line);
            boolean understood = call.matches();
            Due.isTrue("a call and its answer: " + line, understood);
            if (understood) {
                shown.add(call.group(1));
                Due.is(line, answer(office, call.group(1), call.group(2)), Long.parseLong(call.group(3)));
            }
        }
    }

    private static long answer(CloudOffice office, String name, String written) throws ReflectiveOperationException {
        String[] parts = written.isEmpty() ? new String[0] : written.split(", ");
        Class<?>[] types = new Class<?>[parts.length];
        Object[] numbers = new Object[parts.length];
        for (int i = 0; i < parts.length; i++) {
            types[i] = int.class;
            numbers[i] = parts[i].equals("CloudOffice.NONE") ? CloudOffice.NONE : Integer.parseInt(parts[i]);
        }
        Number got = (Number) CloudOffice.class.getMethod(name, types).invoke(office, numbers);
        return got.longValue();
    }

    private static Set<String> methods() {
        Set<String> names = new TreeSet<>();
        for (Method method : CloudOffice.class.getDeclaredMethods()) {
            if (Modifier.isPublic(method.getModifiers())) {
                names.add(method.getName());
            }
        }
        return names;
    }

    /** The tests, and the helpers, which stand in `..` in the last paragraph. */
    private static Set<String> namesIn(String text) {
        Set<String> names = new TreeSet<>();
        Matcher test = Pattern.compile("\\b\\w+Test\\b").matcher(text);
        while (test.find()) {
            names.add(test.group());
        }
        Matcher helper = Pattern.compile("`(\\w+)`").matcher(text.substring(text.lastIndexOf("They share")));
        while (helper.find()) {
            names.add(helper.group(1));
        }
        return names;
    }

    private static Set<String> testFiles() throws IOException {
        Set<String> names = new TreeSet<>();
        try (Stream<Path> files = Files.list(Path.of("src/test/java"))) {
            files.forEach(file -> names.add(file.getFileName().toString().replace(".java", "")));
        }
        return names;
    }
}
