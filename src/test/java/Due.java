import java.nio.charset.StandardCharsets;
import java.util.Arrays;

/** Counts answers that are not the ones that are due, and ends a test with exit code 1 if there were any. */
final class Due {
    private final String test;
    private int calls;
    private int wrong;

    Due(String test) {
        this.test = test;
    }

    void is(String call, long got, long want) {
        calls++;
        if (got != want) {
            wrong++;
            System.out.println(test + ": " + call + " answered " + got + ", due is " + want);
        }
    }

    void is(String call, boolean got, boolean want) {
        is(call, got ? 1 : 0, want ? 1 : 0);
    }

    void is(String call, String got, String want) {
        calls++;
        if (!got.equals(want)) {
            wrong++;
            System.out.println(test + ": " + call + " answered '" + got + "', due is '" + want + "'");
        }
    }

    int wrong() {
        return wrong;
    }

    void end() {
        System.out.println(test + ": " + (calls - wrong) + " of " + calls + " answers are as due");
        if (wrong != 0 || calls == 0) {
            System.exit(1);
        }
    }

    /** The text in place of the one that is there. */
    static void text(KeyFists x, String text) {
        byte[] bytes = text.getBytes(StandardCharsets.ISO_8859_1);
        x.end(0);
        for (int at = 0; at < bytes.length; at += 20) {
            int[] numbers = numbers(bytes, at);
            x.feed(numbers[0], numbers[1], numbers[2], numbers[3], numbers[4]);
        }
        x.end(bytes.length);
    }

    static int[] numbers(byte[] bytes, int from) {
        byte[] twenty = new byte[20];
        Arrays.fill(twenty, (byte) 32);
        for (int i = 0; i < 20 && from + i < bytes.length; i++) {
            twenty[i] = bytes[from + i];
        }
        int[] numbers = new int[5];
        for (int i = 0; i < 20; i++) {
            numbers[i / 4] = numbers[i / 4] << 8 | twenty[i] & 255;
        }
        return numbers;
    }

    static int fault(KeyFists x, String text) {
        text(x, text);
        return x.fault();
    }

    static int code(KeyFists x, String text) {
        text(x, text);
        return x.code();
    }

    /** The TAPE in place of the one that is there. */
    static void tape(KeyFists x, int... lengths) {
        x.cut(0);
        for (int length : lengths) {
            x.length(length);
        }
    }

    static String tape(KeyFists x) {
        StringBuilder row = new StringBuilder();
        for (int k = 0; k < x.count(4); k++) {
            row.append(k == 0 ? "" : " ").append(x.tape(k));
        }
        return row.toString();
    }

    /** A CODE of all letters as Morse has them, and no WORDS. */
    static String morse() {
        String[] marks = {"12", "2111", "2121", "211", "1", "1121", "221", "1111", "11", "1222", "212", "1211", "22",
            "21", "222", "1221", "2212", "121", "111", "2", "112", "1112", "122", "2112", "2122", "2211"};
        StringBuilder text = new StringBuilder();
        for (int letter = 0; letter < 26; letter++) {
            text.append("letter ").append((char) ('a' + letter)).append(' ').append(marks[letter]).append(';');
        }
        return text.toString();
    }

    /** A CODE of the letters a, b and c and so many WORDS, 20 at most; its GROUPS count up from aaa. */
    static String words(int many) {
        StringBuilder text = new StringBuilder("letter a 1;letter b 2;letter c 11;");
        for (int word = 0; word < many; word++) {
            text.append("word ").append((char) ('a' + word)).append(" is ").append((char) ('a' + word / 9))
                .append((char) ('a' + word / 3 % 3)).append((char) ('a' + word % 3)).append(';');
        }
        return text.toString();
    }
}
