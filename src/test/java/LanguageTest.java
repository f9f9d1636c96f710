import java.io.IOException;
import java.nio.file.Files;
import java.nio.file.Path;
import java.util.List;
import java.util.regex.Matcher;
import java.util.regex.Pattern;

/** The rules of ../shared/LANGUAGE.md that can be seen from the lines of the program. */
public final class LanguageTest {
    private static final Path PROGRAM = Path.of("src/main/java/KeyFists.java");
    // Rules 2, 4, 6 and 13, and from rule 3 what takes room in each call.
    private static final String[] FORBIDDEN = {"throw", "throws", "try", "catch", "finally", "synchronized", "assert",
        "import", "package", "instanceof", "record", "protected", "native", "volatile", "transient", "Object", "System",
        "Thread", "Random", "hashCode", "toString", "equals", "double", "float", "String.format", "Exception", "Error"};

    public static void main(String[] args) throws IOException {
        Due due = new Due("LanguageTest");
        List<String> lines = Files.readAllLines(PROGRAM);
        StringBuilder code = new StringBuilder();
        for (String line : lines) {
            due.is("line of 130 signs or more: " + line, line.length() >= 130, false);
            due.is("signs above 126 or tabs: " + line, line.matches("[ -~]*"), true);
            code.append(withoutComment(line)).append('\n');
        }
        for (String word : FORBIDDEN) {
            due.is("uses of " + word, count(code, "\\b" + Pattern.quote(word) + "\\b"), 0);
        }
        due.is("lambdas and new switches", count(code, "->"), 0);
        due.is("method references", count(code, "::"), 0);
        due.is("texts joined by +", count(code, "\"\\s*\\+|\\+\\s*\""), 0);
        due.is("classes above twelve", Math.max(0, count(code, "\\bclass \\w+ \\{") - 12), 0);
        due.is("classes inside that aren't private static final",
            count(code, "\\bclass \\w+ \\{") - count(code, "private static final class \\w+ \\{"), 1);
        madeInConstructors(due, code.toString());
        shortMethods(due, code.toString().split("\n"));
        due.end();
    }

    private static String withoutComment(String line) {
        String code = line.replaceAll("//.*", "");
        return code.trim().startsWith("/**") || code.trim().startsWith("*") ? "" : code;
    }

    private static int count(CharSequence code, String pattern) {
        Matcher matcher = Pattern.compile(pattern).matcher(code);
        int found = 0;
        while (matcher.find()) {
            found++;
        }
        return found;
    }

    /** All objects and arrays are made with the object itself, so a call makes none. */
    private static void madeInConstructors(Due due, String code) {
        int start = code.indexOf("public KeyFists() {");
        int end = code.indexOf("\n    }", start);
        String calls = code.substring(0, start) + code.substring(end);
        int fields = count(calls, "private final \\w+(\\[\\])* \\w+ = new ");
        due.is("objects made outside constructors", count(calls, "\\bnew\\b") - fields, 0);
    }

    private static void shortMethods(Due due, String[] lines) {
        for (int at = 0; at < lines.length; at++) {
            if (!lines[at].matches("( {4}| {8})(public |private |static )*[\\w\\[\\]]*( \\w+)?\\(.*\\) \\{")
                    || lines[at].contains(" new ")) {
                continue;
            }
            int parameters = lines[at].contains("()") ? 0 : lines[at].split(",").length;
            due.is("parameters above seven: " + lines[at], Math.max(0, parameters - 7), 0);
            String closing = lines[at].replaceAll("\\S.*", "") + "}";
            int end = at;
            while (end < lines.length && !lines[end].equals(closing)) {
                end++;
            }
            due.is("a method of above 60 lines: " + lines[at], end - at + 1 > 60, false);
        }
    }
}
