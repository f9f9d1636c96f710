import java.io.IOException;
import java.lang.reflect.Method;
import java.nio.file.Files;
import java.nio.file.Path;
import java.util.Set;
import java.util.TreeSet;
import java.util.regex.Matcher;
import java.util.regex.Pattern;

/** README.md tells calls and what they answer: each is made, in its order, and each call of the face is told. */
public final class ReadmeTest {
    private static final Path README = Path.of("README.md");
    private static final Path SELF = Path.of("src/test/java/ReadmeTest.java");
    private static final Pattern BLOCK = Pattern.compile("```java\n(.*?)```", Pattern.DOTALL);
    private static final Pattern HELPER = Pattern.compile(" {4}static void say.*?\n {4}}\n", Pattern.DOTALL);
    private static final Pattern SAYS = Pattern.compile("say\\(x, \"(.*)\"\\);");
    private static final Pattern CALL = Pattern.compile("x\\.(\\w+)\\((.*)\\); +// (\\w+|-\\d+)(: .*)?");

    private final Due due = new Due("ReadmeTest");
    private final Set<String> told = new TreeSet<>();
    private KeyFists x;

    public static void main(String[] args) throws IOException, ReflectiveOperationException {
        new ReadmeTest().run(Files.readString(README));
    }

    private void run(String readme) throws IOException, ReflectiveOperationException {
        Matcher helper = HELPER.matcher(Files.readString(SELF));
        due.is("the helper of this test found", helper.find(), true);
        String shown = helper.group().replaceAll("(?m)^ {4}", "");
        due.is("the helper is shown as it is here", readme.contains("```java\n" + shown + "```"), true);
        Matcher block = BLOCK.matcher(readme);
        while (block.find()) {
            if (!block.group(1).equals(shown)) {
                for (String row : block.group(1).split("\n")) {
                    make(row);
                }
            }
        }
        Set<String> face = new TreeSet<>();
        for (Method method : KeyFists.class.getMethods()) {
            if (method.getDeclaringClass() == KeyFists.class) {
                face.add(method.getName());
            }
        }
        due.is("the calls that are told", told.toString(), face.toString());
        due.end();
    }

    private void make(String row) throws ReflectiveOperationException {
        Matcher says = SAYS.matcher(row);
        Matcher call = CALL.matcher(row);
        if (row.equals("KeyFists x = new KeyFists();")) {
            x = new KeyFists();
        } else if (says.matches()) {
            say(x, says.group(1));
        } else if (call.matches()) {
            told.add(call.group(1));
            due.is(row, answer(call.group(1), call.group(2)), call.group(3));
        } else {
            due.is("a row of another form: " + row, false, true);
        }
    }

    private String answer(String name, String arguments) throws ReflectiveOperationException {
        String[] words = arguments.isEmpty() ? new String[0] : arguments.split(", ");
        Class<?>[] types = new Class<?>[words.length];
        Object[] numbers = new Object[words.length];
        for (int i = 0; i < words.length; i++) {
            types[i] = int.class;
            numbers[i] = number(words[i]);
        }
        Object answer = KeyFists.class.getMethod(name, types).invoke(x, numbers);
        if (answer.equals(KeyFists.VOID)) {
            return "VOID";
        }
        return answer.equals(KeyFists.NONE) && !name.equals("apart") ? "NONE" : answer.toString();
    }

    private static int number(String word) {
        return word.equals("KeyFists.NONE") ? KeyFists.NONE : Integer.decode(word);
    }

    static void say(KeyFists x, String text) {
        x.end(0);
        for (int at = 0; at < text.length(); at += 20) {
            int[] numbers = new int[5];
            for (int i = 0; i < 20; i++) {
                int sign = at + i < text.length() ? text.charAt(at + i) : ' ';
                numbers[i / 4] = numbers[i / 4] << 8 | sign & 255;
            }
            x.feed(numbers[0], numbers[1], numbers[2], numbers[3], numbers[4]);
        }
        x.end(text.length());
    }
}
