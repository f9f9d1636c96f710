import java.util.Arrays;

/** Promises 1 to 7 and 20 at their edges: a case of its own for each sentence that names one. */
public final class EdgesOfTextTest {
    private static final Due due = new Due("EdgesOfTextTest");
    private static final int MIN = Integer.MIN_VALUE;
    private static final int MAX = Integer.MAX_VALUE;
    private static final int NONE = KeyFists.NONE;

    public static void main(String[] args) {
        newObject();
        theLastCallOfAll();
        feedTwentyBytesHighestFirst();
        feedEachByte();
        feedUpTo500();
        feedBehindWhatIsThere();
        endWithTheFirstBytesAlone();
        endOfMoreThanThereAre();
        tokensAsLongAsCanBe();
        blanksAndLineEndsBetween();
        bytesThatBeginNoToken();
        tokensThatCantStandThere();
        textsThatEndTooEarly();
        textsWithoutALine();
        theFaultThatIsAhead();
        marksOfOneToFiveDigits();
        namesOfAtMostEightLetters();
        groupsOfThreeLettersToldAhead();
        whatIsToldAlready();
        allLettersTold();
        twentyWordsAndOneMore();
        aCodeOf500Bytes();
        codeThatIsTaken();
        codeThatIsRefused();
        marksOfLetters();
        groupsOfWords();
        mendedGroups();
        mendedThatCantBe();
        due.end();
    }

    private static void fault(String text, int want) {
        KeyFists x = new KeyFists();
        due.is("fault of '" + text + "'", Due.fault(x, text), want);
        due.is("fault of '" + text + "' again", x.fault(), want);
        due.is("bytes behind fault", x.count(8), text.length());
    }

    /** A FAULT at the end of the text ahead, whatever comes behind it. */
    private static void faultBehind(String ahead, String behind) {
        fault(ahead + behind, ahead.length());
    }

    // 1: no CODE, HANDS, LINES, an empty TAPE

    private static void newObject() {
        KeyFists x = new KeyFists();
        due.is("new code()", x.code(), NONE);
        due.is("new fault()", x.fault(), 0);
        for (int number = -1; number <= 26; number++) {
            due.is("new marks(" + number + ")", x.marks(number), NONE);
            due.is("new group(" + number + ")", x.group(number), NONE);
            due.is("new bite(" + number + ")", x.bite(number), NONE);
            due.is("new tape(" + number + ")", x.tape(number), NONE);
            due.is("new sent(" + number + ", 0, 0)", x.sent(number, 0, 0), NONE);
            due.is("new tap(" + number + ", -1)", x.tap(number, NONE), NONE);
            due.is("new apart(" + number + ", " + number + ", 0)", x.apart(number, number, 0), KeyFists.VOID);
            due.is("new first(" + number + ", " + number + ")", x.first(number, number), NONE);
        }
        due.is("new readings(0, 0)", x.readings(0, 0), NONE);
        due.is("new nearest(0, 0, -1)", x.nearest(0, 0, NONE), NONE);
        due.is("new suspects(-1)", x.suspects(NONE), NONE);
        due.is("new likelier(0, 0, 0)", x.likelier(0, 0, 0), NONE);
        due.is("new key(0, 0, 0)", x.key(0, 0, 0), NONE);
        due.is("new mended(0, 3, -1)", x.mended(0, 3, NONE), 0);
        due.is("new mended(0, 3, 0)", x.mended(0, 3, 0), NONE);
        due.is("new message(1, 1, 0)", x.message(1, 1, 0), NONE);
        due.is("new route(0, 1, -1)", x.route(0, 1, NONE), NONE);
        due.is("new fact(0, 1, 0)", x.fact(0, 1, 0), NONE);
        due.is("new undo()", x.undo(), NONE);
        due.is("new end(0)", x.end(0), true);
        due.is("new end(1)", x.end(1), false);
        due.is("new cut(0)", x.cut(0), true);
        due.is("new cut(1)", x.cut(1), false);
        for (int what = -1; what <= 10; what++) {
            due.is("new count(" + what + ")", x.count(what), what < 0 || what > 9 ? NONE : 0);
        }
    }

    private static void theLastCallOfAll() {
        KeyFists x = new KeyFists();
        Due.code(x, "letter e 1;word a is eee;");
        for (int call = 5; call < 511; call++) {
            x.rain((call + 1) % 10);
        }
        due.is("the 512th call", x.count(9), 1);
    }

    // 2: feed

    private static void feedTwentyBytesHighestFirst() {
        for (int place = 0; place < 20; place++) {
            byte[] bytes = new byte[20];
            Arrays.fill(bytes, (byte) ' ');
            bytes[place] = '!';
            int[] of = Due.numbers(bytes, 0);
            KeyFists x = new KeyFists();
            due.is("feed", x.feed(of[0], of[1], of[2], of[3], of[4]), 20);
            due.is("FAULT at the byte " + place, x.fault(), place);
            due.is("end behind it", x.end(place + 1), true);
            due.is("FAULT at the byte " + place, x.fault(), place);
            due.is("end ahead of it", x.end(place), true);
            due.is("the length as FAULT", x.fault(), place);
        }
    }

    private static void feedEachByte() {
        for (int b = 0; b < 256; b++) {
            int letters = b == ' ' || b == '\n' ? NONE : 11;
            fault("letter e 1;" + (char) b, letters);
            boolean goesOn = b >= 'a' && b <= 'z';
            fault("letter" + (char) b + " e 1;", goesOn ? 0 : b == ' ' || b == '\n' ? NONE : 6);
            int behind = b == ' ' || b == '\n' || b == '1' || b == '2' ? NONE : b == ';' ? 11 : 10;
            fault("letter e 1" + (char) b + ";", b >= '0' && b <= '9' && behind == 10 ? 9 : behind);
        }
        KeyFists x = new KeyFists();
        due.is("feed of the greatest numbers", x.feed(MAX, MAX, MAX, MAX, MAX), 20);
        due.is("feed of the least numbers", x.feed(MIN, MIN, MIN, MIN, MIN), 40);
        due.is("feed of -1", x.feed(-1, -1, -1, -1, -1), 60);
        due.is("its FAULT", x.fault(), 0);
    }

    private static void feedUpTo500() {
        KeyFists x = new KeyFists();
        for (int times = 1; times <= 25; times++) {
            due.is("feed " + times, x.feed(0x20202020, 0x20202020, 0x20202020, 0x20202020, 0x20202020), 20 * times);
            due.is("bytes", x.count(8), 20 * times);
        }
        for (int bytes = 500; bytes > 480; bytes--) {
            due.is("end(" + bytes + ")", x.end(bytes), true);
            due.is("feed behind " + bytes, x.feed(0x21212121, 0, 0, 0, 0), NONE);
            due.is("bytes then", x.count(8), bytes);
            due.is("no byte of what was refused", x.fault(), bytes);
        }
        x.end(480);
        due.is("feed behind 480", x.feed(0x20202020, 0x20202020, 0x20202020, 0x20202020, 0x20202021), 500);
        due.is("the last byte", x.fault(), 499);
        due.is("the 26th feed", x.feed(0x21202020, 0, 0, 0, 0), NONE);
        due.is("the last byte stays", x.fault(), 499);
    }

    private static void feedBehindWhatIsThere() {
        KeyFists x = new KeyFists();
        Due.text(x, "let");
        byte[] bytes = "ter e 1;            ".getBytes();
        int[] of = Due.numbers(bytes, 0);
        due.is("feed behind three bytes", x.feed(of[0], of[1], of[2], of[3], of[4]), 23);
        due.is("the text goes on", x.fault(), NONE);
    }

    // 3: end

    private static void endWithTheFirstBytesAlone() {
        KeyFists x = new KeyFists();
        Due.text(x, "letter e 1;letter t 2; !");
        due.is("FAULT", x.fault(), 23);
        due.is("end of all", x.end(24), true);
        due.is("FAULT still", x.fault(), 23);
        due.is("end(22)", x.end(22), true);
        due.is("FAULT", x.fault(), NONE);
        due.is("end(21)", x.end(21), true);
        due.is("FAULT", x.fault(), 21);
        due.is("end(11)", x.end(11), true);
        due.is("FAULT", x.fault(), NONE);
        due.is("what is gone doesn't come back", x.end(22), false);
        due.is("bytes", x.count(8), 11);
        due.is("end(0)", x.end(0), true);
        due.is("bytes", x.count(8), 0);
        due.is("FAULT", x.fault(), 0);
    }

    private static void endOfMoreThanThereAre() {
        for (int size : new int[] {0, 1, 19, 20, 499, 500}) {
            KeyFists x = new KeyFists();
            char[] signs = new char[size];
            Arrays.fill(signs, ' ');
            Due.text(x, new String(signs));
            for (int n : new int[] {MIN, MIN + 1, -500, -2, -1, size + 1, size + 2, 501, 520, MAX}) {
                due.is("end(" + n + ") of " + size, x.end(n), false);
                due.is("bytes then", x.count(8), size);
            }
            due.is("end(" + size + ") of as many", x.end(size), true);
            due.is("bytes then", x.count(8), size);
            due.is("end(0)", x.end(0), true);
            due.is("bytes then", x.count(8), 0);
        }
    }

    // Terms: a CODE and its FAULT

    private static void tokensAsLongAsCanBe() {
        fault("lettere 1;", 0);
        fault("letter e1;", NONE);
        fault("letter e 1;word a is eee;", NONE);
        fault("letter e 1;worda is eee;", 11);
        fault("letter e 1;word ais eee;", 20);
        fault("letter e 1;word a iseee;", 18);
        fault("letter e 1 1;", 11);
        fault("letter e 1;letter t 2letter", 21);
        fault("letter e11;", NONE);
        fault("letter e 111112;", 9);
    }

    private static void blanksAndLineEndsBetween() {
        fault("letter e1;letter t2;word a is ete;", NONE);
        fault("   letter   e   1   ;   ", NONE);
        fault("\n\n letter \n\n e\n1\n;\n \n", NONE);
        fault("letter e 1;\nword\na\nis\neee\n;", NONE);
        fault("let ter e 1;", 0);
        fault("letter e 1 2;", 11);
        fault("letter e 1;word a i s eee;", 18);
        fault("letter e 1;word a is e ee;", 21);
        for (char sign : new char[] {0, 9, 11, 12, 13, 31, 33, 127, 128, 160, 255}) {
            fault("letter" + sign + "e 1;", 6);
            fault(sign + "letter e 1;", 0);
            fault("letter e 1;" + sign, 11);
        }
    }

    private static void bytesThatBeginNoToken() {
        for (char sign : new char[] {'`', '{', '/', ':', '<', 'A', 'Z', '@', '[', 0, 127, 255}) {
            faultBehind("", sign + "letter e 1;");
            faultBehind("letter ", sign + "e 1;");
            faultBehind("letter e", sign + " 1;");
            faultBehind("letter e ", sign + "1;");
            faultBehind("letter e 1", sign + ";");
            faultBehind("letter e 1;", sign + "");
            faultBehind("letter e 1;word a", sign + " is eee;");
            faultBehind("letter e 1;word a is eee", sign + ";");
        }
    }

    private static void tokensThatCantStandThere() {
        String e = "letter e 1;";
        String[][] wrong = {
            {"", "lette", "letters", "better", "letten", "e", "is", "wor", "words", "1", ";", "!"},
            {"letter ", "ee", "letter", "word", "is", "1", "12", ";", "!"},
            {"letter e ", "e", "t", "letter", "0", "3", "10", "13", "31", "21112221", "111111", "222222", "1111111111",
                "4294967297", "01", "9", ";", "!"},
            {"letter e 1 ", "1", "2", "e", "letter", "word", "!"},
            {e, "e", "is", "lette", "letterr", "wor", "wordd", "1", ";", "!"},
            {e + " word ", "letter", "word", "is", "abcdefghi", "abcdefghijklmnopqrst", "1", "8", ";", "!"},
            {e + "word n ", "i", "iss", "it", "as", "n", "letter", "word", "eee", "1", ";", "!"},
            {e + "word n is ", "e", "ee", "eeee", "eea", "eae", "aee", "is", "word", "letter", "1", "111", ";", "!"},
            {e + "word n is eee ", "eee", "e", "word", "letter", "is", "1", "!"}};
        for (String[] of : wrong) {
            for (int i = 1; i < of.length; i++) {
                faultBehind(of[0], of[i]);
                faultBehind(of[0], of[i] + " ");
                faultBehind(of[0], of[i] + " ; !");
                faultBehind(of[0] + " \n ", of[i] + "\n");
            }
        }
    }

    private static void textsThatEndTooEarly() {
        String[] tokens = {"letter", "e", "1", ";", "word", "n", "is", "eee", ";", "letter", "t", "2", ";"};
        String text = "";
        for (String token : tokens) {
            text = text + token;
            boolean isWhole = token.equals(";");
            fault(text, isWhole ? NONE : text.length());
            text = text + " ";
            fault(text, isWhole ? NONE : text.length());
            fault(text + "\n ", isWhole ? NONE : text.length() + 2);
        }
    }

    private static void textsWithoutALine() {
        KeyFists x = new KeyFists();
        due.is("FAULT of no text", x.fault(), 0);
        due.is("code of no text", x.code(), NONE);
        fault("", 0);
        fault(" ", 1);
        fault("\n", 1);
        char[] blanks = new char[500];
        Arrays.fill(blanks, ' ');
        fault(new String(blanks), 500);
        Arrays.fill(blanks, '\n');
        fault(new String(blanks), 500);
        due.is("code of 500 line ends", Due.code(x, new String(blanks)), NONE);
        due.is("bytes then", x.count(8), 500);
        fault("letter e 1;", NONE);
    }

    private static void theFaultThatIsAhead() {
        fault("lette !", 0);
        fault("! lette", 0);
        fault("letter 1!", 7);
        fault("letter !1", 7);
        fault("letter ee! 1;", 7);
        fault("letter e 3!", 9);
        fault("letter e 1! 3", 10);
        fault("letter e 1; letter e! 1", 19);
        fault("letter e 1; word a is eea!", 22);
        fault("letter e 1; ; !", 12);
        fault("letter e 1; ! ;", 12);
    }

    private static void marksOfOneToFiveDigits() {
        for (String marks : new String[] {"1", "2", "11", "22", "12", "21", "121", "2222", "11111", "22222", "12121"}) {
            fault("letter e " + marks + ";", NONE);
            KeyFists x = new KeyFists();
            due.is("code with " + marks, Due.code(x, "letter z " + marks + ";"), 0);
            due.is("its MARKS", x.marks(25), Integer.parseInt(marks));
        }
        for (String marks : new String[] {"0", "3", "9", "10", "13", "20", "23", "01", "02", "11110", "11113", "011111",
            "111111", "222222", "121212", "11111111111111111111"}) {
            faultBehind("letter e ", marks + ";");
        }
        fault("letter e ;", 9);
    }

    private static void namesOfAtMostEightLetters() {
        String e = "letter e 1;word ";
        for (String name : new String[] {"a", "z", "e", "abcdefgh", "zzzzzzzz", "letters", "lette", "words", "wor", "iss",
            "i", "si", "eee"}) {
            fault(e + name + " is eee;", NONE);
        }
        for (String name : new String[] {"abcdefghi", "zzzzzzzzz", "letter", "word", "is", "abcdefghijklmnop"}) {
            faultBehind(e, name + " is eee;");
        }
    }

    private static void groupsOfThreeLettersToldAhead() {
        String az = "letter a 1;letter z 2;word n is ";
        for (String group : new String[] {"aaa", "zzz", "aaz", "aza", "zaa", "zza"}) {
            fault(az + group + ";", NONE);
        }
        for (String group : new String[] {"aa", "aaaa", "aab", "aba", "baa", "yzz", "zyz", "zzy"}) {
            faultBehind(az, group + ";");
        }
        // told behind isn't told ahead
        fault("word n is aaa;letter a 1;", 10);
        fault("letter a 1;word n is aba;letter b 2;", 21);
        fault("letter a 1;letter b 2;word n is aba;", NONE);
        KeyFists x = new KeyFists();
        Due.code(x, "letter a 1;letter b 2;");
        due.is("told by the CODE ahead isn't told", Due.fault(x, "letter b 1;word n is aaa;"), 21);
    }

    private static void whatIsToldAlready() {
        String first = "letter e 1;letter t 2;word n is eee;";
        faultBehind(first + "letter ", "e 11;");
        faultBehind(first + "letter ", "e 1;");
        faultBehind(first + "letter a ", "1;");
        faultBehind(first + "letter a ", "2;");
        fault(first + "letter a 11;letter b 22;letter c 12;letter d 111;", NONE);
        faultBehind(first + "word ", "n is ttt;");
        faultBehind(first + "word ", "n is eee;");
        // alike, though what stands behind it isn't
        faultBehind(first + "word ", "n\nis ttt;");
        faultBehind(first + "word ", "n;");
        faultBehind(first + "word ", "n");
        faultBehind("letter e 1;letter t 2;word ab\nis eee;word ", "ab is ttt;");
        faultBehind(first + "word m is ", "eee;");
        fault(first + "word nn is eet;word m is tee;word mn is ete;", NONE);
        fault("letter e 1;word eeeeeeee is eee;letter t 2;word eeeeeee is eet;word eeeeeeet is ttt;", NONE);
        KeyFists x = new KeyFists();
        due.is("code", Due.code(x, first), 1);
        due.is("told by the CODE ahead alone", Due.code(x, first), 1);
    }

    private static void allLettersTold() {
        fault(Due.morse(), NONE);
        for (char letter = 'a'; letter <= 'z'; letter++) {
            faultBehind(Due.morse() + "letter ", letter + " 22222;");
        }
        KeyFists x = new KeyFists();
        due.is("code of 26 letters", Due.code(x, Due.morse()), 0);
        due.is("letters", x.count(0), 26);
    }

    private static void twentyWordsAndOneMore() {
        fault(Due.words(19), NONE);
        fault(Due.words(20), NONE);
        fault(Due.words(20) + "letter z 222;", NONE);
        faultBehind(Due.words(20), "word z is ccc;");
        faultBehind(Due.words(20), "word");
        faultBehind(Due.words(20), "word ;");
        faultBehind(Due.words(20), "word a is aaa;");
        faultBehind(Due.words(20) + "letter z 222;", "word z is ccc;");
        faultBehind(Due.words(20), "wordz");
        for (int many = 0; many <= 20; many++) {
            KeyFists x = new KeyFists();
            due.is("code of " + many + " WORDS", Due.code(x, Due.words(many)), many);
            due.is("WORDS", x.count(1), many);
            due.is("the one behind them", x.group(many), NONE);
            if (many > 0) {
                int word = many - 1;
                due.is("the last one", x.group(word), word / 9 * 676 + word / 3 % 3 * 26 + word % 3);
            }
        }
        KeyFists x = new KeyFists();
        Due.code(x, Due.words(20));
        due.is("code of 21 WORDS", Due.code(x, Due.words(20) + "word z is ccc;"), NONE);
        due.is("the CODE stays", x.count(1), 20);
    }

    private static void aCodeOf500Bytes() {
        StringBuilder text = new StringBuilder("letter a 1;");
        while (text.length() < 500 - "word zz is aaa;".length()) {
            text.append(' ');
        }
        text.append("word zz is aaa;");
        fault(text.toString(), NONE);
        fault(text.substring(0, 499), 499);
        KeyFists x = new KeyFists();
        due.is("code of 500 bytes", Due.code(x, text.toString()), 1);
        due.is("bytes then", x.count(8), 0);
        fault(text.substring(0, 499) + "!", 499);
        fault(text.substring(0, 498) + "b;", 496);
    }

    // 5: code

    private static void codeThatIsTaken() {
        KeyFists x = new KeyFists();
        due.is("code of one letter", Due.code(x, "letter e 1;"), 0);
        due.is("letters", x.count(0), 1);
        due.is("WORDS", x.count(1), 0);
        due.is("the text is empty", x.count(8), 0);
        due.is("its FAULT", x.fault(), 0);
        due.is("end(1)", x.end(1), false);
        due.is("code in place of it", Due.code(x, "letter t 1;letter a 2;word n is tta;"), 1);
        due.is("the letter ahead", x.marks('e' - 'a'), NONE);
        due.is("letters", x.count(0), 2);
        due.is("code with fewer WORDS", Due.code(x, "letter z 22222;"), 0);
        due.is("the GROUP ahead", x.group(0), NONE);
        due.is("letters", x.count(0), 1);
        due.is("its MARKS", x.marks(25), 22222);
    }

    private static void codeThatIsRefused() {
        String[] wrong = {"", " ", "letter", "letter e", "letter e 1", "letter e 11;!", "letter z 2;letter z 22;",
            "letter z 2;word m is zzz;word m is zzz;", "letter z 2;word m is zza;", "word", "z"};
        for (String text : wrong) {
            KeyFists x = new KeyFists();
            Due.code(x, "letter e 1;letter t 2;word n is eet;");
            int fault = Due.fault(x, text);
            due.is("code of '" + text + "'", x.code(), NONE);
            due.is("bytes of '" + text + "' stay", x.count(8), text.length());
            due.is("its FAULT stays", x.fault(), fault);
            due.is("letters stay", x.count(0), 2);
            due.is("WORDS stay", x.count(1), 1);
            due.is("MARKS stay", x.marks(4), 1);
            due.is("MARKS stay", x.marks(19), 2);
            due.is("no MARKS of the text", x.marks(25), NONE);
            due.is("the GROUP stays", x.group(0), 4 * 676 + 4 * 26 + 19);
            due.is("no GROUP of the text", x.group(1), NONE);
            due.is("what is MENDED stays", x.mended(25 * 676 + 25 * 26 + 25, 2, NONE), 0);
        }
    }

    // 6, 7: marks and group

    private static void marksOfLetters() {
        KeyFists x = new KeyFists();
        Due.code(x, Due.morse());
        due.is("marks(0)", x.marks(0), 12);
        due.is("marks(25)", x.marks(25), 2211);
        for (int letter : new int[] {MIN, -2, -1, 26, 27, 'a', 'z', MAX}) {
            due.is("marks(" + letter + ")", x.marks(letter), NONE);
        }
        KeyFists y = new KeyFists();
        Due.code(y, "letter b 21;letter y 12;");
        for (int letter = 0; letter < 26; letter++) {
            due.is("marks(" + letter + ")", y.marks(letter), letter == 1 ? 21 : letter == 24 ? 12 : NONE);
        }
    }

    private static void groupsOfWords() {
        KeyFists x = new KeyFists();
        Due.code(x, "letter z 2;letter a 1;word q is zzz;word p is aaa;word r is zaa;word c is aza;word b is aaz;");
        int[] want = {17575, 0, 25 * 676, 25 * 26, 25};
        for (int word = 0; word < 5; word++) {
            due.is("group(" + word + ")", x.group(word), want[word]);
        }
        for (int word : new int[] {MIN, -2, -1, 5, 6, 19, 20, MAX}) {
            due.is("group(" + word + ")", x.group(word), NONE);
        }
    }

    // 20: mended

    private static void mendedGroups() {
        KeyFists x = new KeyFists();
        Due.code(x, "letter a 1;letter b 2;letter z 22;word k is aab;word l is baa;word m is zzz;word n is zab;");
        int aab = 1;
        int[] many = {1, 2, 3, 4};
        for (int off = 0; off <= 3; off++) {
            due.is("mended aab " + off, x.mended(aab, off, NONE), many[off]);
            due.is("none such", x.mended(aab, off, many[off]), NONE);
        }
        due.is("mended aab 1, 0", x.mended(aab, 1, 0), 0);
        due.is("mended aab 1, 1", x.mended(aab, 1, 1), 3);
        due.is("letters are at their places", x.mended(aab, 2, 1), 1);
        due.is("letters are at their places", x.mended(aab, 2, 2), 3);
        due.is("mended zzz 0, 0", x.mended(17575, 0, 0), 2);
        due.is("mended of no WORD", x.mended(26 + 1, 0, NONE), 0);
        due.is("none such", x.mended(26 + 1, 0, 0), NONE);
        due.is("mended of letters not told", x.mended(2 * 676 + 2 * 26 + 2, 3, NONE), 4);
        due.is("mended of letters not told", x.mended(2 * 676 + 2 * 26 + 2, 2, NONE), 0);
        due.is("mended of letters not told", x.mended(2 * 676 + 1, 2, 0), 0);
        KeyFists y = new KeyFists();
        Due.code(y, "letter a 1;");
        due.is("mended without WORDS", y.mended(0, 3, NONE), 0);
        due.is("mended without WORDS", y.mended(0, 3, 0), NONE);
        KeyFists z = new KeyFists();
        Due.code(z, Due.words(20));
        due.is("mended of 20 WORDS", z.mended(0, 3, NONE), 20);
        due.is("the last one", z.mended(0, 3, 19), 19);
        due.is("one behind it", z.mended(0, 3, 20), NONE);
    }

    private static void mendedThatCantBe() {
        KeyFists x = new KeyFists();
        Due.code(x, "letter a 1;letter z 2;word k is aaa;word l is zzz;");
        due.is("the least GROUP", x.mended(0, 0, 0), 0);
        due.is("the greatest GROUP", x.mended(17575, 0, 0), 1);
        for (int group : new int[] {MIN, -17576, -676, -26, -1, 17576, 17577, 18252, 35152, MAX}) {
            due.is("mended(" + group + ", 3, -1)", x.mended(group, 3, NONE), NONE);
            due.is("mended(" + group + ", 3, 0)", x.mended(group, 3, 0), NONE);
        }
        for (int off : new int[] {MIN, -1, 4, 5, MAX}) {
            due.is("mended(0, " + off + ", -1)", x.mended(0, off, NONE), NONE);
            due.is("mended(0, " + off + ", 0)", x.mended(0, off, 0), NONE);
        }
        for (int k : new int[] {MIN, -3, -2, 2, 3, MAX}) {
            due.is("mended(0, 3, " + k + ")", x.mended(0, 3, k), NONE);
        }
    }
}
