import java.io.IOException;
import java.lang.reflect.Constructor;
import java.lang.reflect.Field;
import java.lang.reflect.Member;
import java.lang.reflect.Method;
import java.lang.reflect.Modifier;
import java.nio.file.Files;
import java.nio.file.Path;
import java.util.Arrays;
import java.util.List;
import java.util.Set;
import java.util.TreeSet;
import java.util.regex.Pattern;

/** The class has the document's face and nothing more, and keeps to what of LANGUAGE.md can be read off its text. */
public final class FaceTest {
    private static final String[] FACE = {"base(int,int):int", "edge(int,int,int):int", "clear():int",
        "height(int,int,int):int", "part(int):long", "floor():long", "layer(int):int", "rules(int,int,int,int):int",
        "cost(int,int):int", "matched(int):int", "sight(int,int,int,int):int", "shadow(int,int,int,int):int",
        "speed(int,int,int):int", "shade(int,int,int):int", "agree(int,int,int,int):int", "balloon(int,int,int,int):int",
        "light(int,int):int", "span(int,int,int):int", "sweep():int", "must(int,int):int", "tilted(int):int",
        "pair(int,int,int):int", "worst():int", "bent(int):int", "row(int,int,int,int):int", "guess(int,int,int,int):int",
        "under(int,int):int", "order(int):int", "count(int):int", "digest():long"};

    public static void main(String[] args) throws IOException {
        constants();
        members();
        innerClasses();
        text();
        Due.end();
    }

    private static void constants() {
        Due.is("NONE", CloudOffice.NONE, -1);
        Due.is("BAD", CloudOffice.BAD, -2);
        Due.is("NO", CloudOffice.NO, -3);
        Due.is("FULL", CloudOffice.FULL, -4);
    }

    private static boolean isPrivate(Member member) {
        return Modifier.isPrivate(member.getModifiers());
    }

    private static void members() {
        Due.isTrue("public final class", Modifier.isPublic(CloudOffice.class.getModifiers())
            && Modifier.isFinal(CloudOffice.class.getModifiers()));
        Set<String> open = new TreeSet<>();
        Set<String> names = new TreeSet<>();
        for (Method method : CloudOffice.class.getDeclaredMethods()) {
            if (!isPrivate(method)) {
                Due.isTrue(method + " is public", Modifier.isPublic(method.getModifiers()));
                String types = Arrays.toString(Arrays.stream(method.getParameterTypes()).map(Class::getName).toArray());
                open.add(method.getName() + types.replace("[", "(").replace("]", ")").replace(" ", "") + ":"
                    + method.getReturnType().getName());
                names.add(method.getName());
            }
        }
        Due.isTrue("methods are the document's: " + open, open.equals(new TreeSet<>(List.of(FACE))));
        for (Method method : CloudOffice.class.getDeclaredMethods()) {
            Due.isTrue(method + " bears a name of its own", !isPrivate(method) || !names.contains(method.getName()));
        }
        Set<String> fields = new TreeSet<>();
        for (Field field : CloudOffice.class.getDeclaredFields()) {
            if (!isPrivate(field)) {
                fields.add(field.getName());
            }
            Due.isTrue(field + " is no changing static", !Modifier.isStatic(field.getModifiers())
                || Modifier.isFinal(field.getModifiers()));
        }
        Due.isTrue("constants are the document's", fields.equals(Set.of("NONE", "BAD", "NO", "FULL")));
        Constructor<?>[] constructors = CloudOffice.class.getDeclaredConstructors();
        Due.is("constructors", constructors.length, 1);
        Due.is("of no parameters", constructors[0].getParameterCount(), 0);
        Due.isTrue("public constructor", Modifier.isPublic(constructors[0].getModifiers()));
    }

    private static void innerClasses() {
        Class<?>[] inner = CloudOffice.class.getDeclaredClasses();
        Due.isTrue("at most twelve classes", inner.length < 12);
        for (Class<?> one : inner) {
            Due.isTrue(one + " is private and static", Modifier.isPrivate(one.getModifiers())
                && Modifier.isStatic(one.getModifiers()));
            Due.isTrue(one + " has few fields", fieldsOf(one) <= 20);
            Due.is(one + " has no classes inside", one.getDeclaredClasses().length, 0);
            for (Method method : one.getDeclaredMethods()) {
                Due.isTrue(method + " takes seven at most", method.getParameterCount() <= 7);
                Due.isTrue(method + " bears no name of the face",
                    Arrays.stream(FACE).noneMatch(f -> f.startsWith(method.getName() + "(")));
            }
        }
        Due.isTrue("the class has few fields", fieldsOf(CloudOffice.class) <= 20);
    }

    private static long fieldsOf(Class<?> one) {
        return Arrays.stream(one.getDeclaredFields()).filter(f -> !Modifier.isStatic(f.getModifiers())).count();
    }

    private static void text() throws IOException {
        String text = Files.readString(Path.of("src/main/java/CloudOffice.java"));
        Due.isTrue("signs up to 126", text.chars().allMatch(c -> c == '\n' || c >= 32 && c < 127));
        String code = text.replaceAll("(?s)/\\*.*?\\*/", "").replaceAll("//[^\n]*", "");
        String[] words = {"throw", "throws", "try", "catch", "synchronized", "assert", "import", "package", "protected",
            "while", "do", "double", "float", "String", "System"};
        for (String word : words) {
            Due.isTrue("no " + word, !Pattern.compile("\\b" + word + "\\b").matcher(code).find());
        }
        Due.isTrue("no lambda, no method reference", !code.contains("->") && !code.contains("::"));
        onlyConstructorsMake(code);
    }

    /** All of a run lives in one room: so calls make nothing, and use again what the constructors made. */
    private static void onlyConstructorsMake(String code) {
        String end = null;
        for (String line : code.split("\n")) {
            if (line.matches("\\s+(public )?[A-Z]\\w*\\(.*\\) \\{")) {
                end = line.replaceAll("\\S.*", "") + "}";
            }
            Due.isTrue("made in a constructor: " + line.trim(), end != null || !line.matches(".*\\bnew\\b.*"));
            if (line.equals(end)) {
                end = null;
            }
        }
    }
}
