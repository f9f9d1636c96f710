/** Promises 1 to 7 and 20: the text, its FAULT, the CODE and its GROUPS mended. */
public final class CodeTest {
    private static final Due due = new Due("CodeTest");

    public static void main(String[] args) {
        newObject();
        feed();
        end();
        faultsOfTokens();
        faultsOfLetters();
        faultsOfWords();
        whatIsToldAlready();
        manyWords();
        code();
        marksAndGroups();
        mended();
        due.end();
    }

    private static void newObject() {
        KeyFists x = new KeyFists();
        for (int what = 0; what <= 9; what++) {
            due.is("new count(" + what + ")", x.count(what), 0);
        }
        due.is("new fault()", x.fault(), 0);
        due.is("new code()", x.code(), -1);
        due.is("new marks(0)", x.marks(0), -1);
        due.is("new group(0)", x.group(0), -1);
        due.is("new tape(0)", x.tape(0), -1);
        due.is("new bite(0)", x.bite(0), -1);
        due.is("new undo()", x.undo(), -1);
        due.is("new mended(0, 3, -1)", x.mended(0, 3, -1), 0);
        KeyFists other = new KeyFists();
        Due.code(other, "letter e 1;");
        due.is("another object's letters", x.count(0), 0);
    }

    private static void feed() {
        KeyFists x = new KeyFists();
        for (int times = 1; times <= 25; times++) {
            due.is("feed " + times, x.feed(0x6C657474, 0x65722065, 0x20313B20, 0x20202020, 0x20202020), 20 * times);
        }
        due.is("feed 26", x.feed(0, 0, 0, 0, 0), -1);
        due.is("bytes then", x.count(8), 500);
        due.is("end(481)", x.end(481), true);
        due.is("feed behind 481", x.feed(0, 0, 0, 0, 0), -1);
        due.is("bytes then", x.count(8), 481);
        due.is("end(480)", x.end(480), true);
        due.is("feed behind 480", x.feed(0, 0, 0, 0, 0), 500);

        KeyFists y = new KeyFists();
        y.feed(0x6C657474, 0x65722065, 0x20313B20, 0x20202020, 0x20202020);
        due.is("bytes in order", y.fault(), -1);
        y.end(13);
        y.feed(0xFF202020, 0x20202020, 0x20202020, 0x20202020, 0x20202020);
        due.is("a byte above 127, the highest of a number below 0", y.fault(), 13);
        y.end(14);
        due.is("that byte at the end", y.fault(), 13);
    }

    private static void end() {
        KeyFists x = new KeyFists();
        due.is("end(0) of nothing", x.end(0), true);
        due.is("end(1) of nothing", x.end(1), false);
        x.feed(0, 0, 0, 0, 0);
        due.is("end(21)", x.end(21), false);
        due.is("end(-1)", x.end(-1), false);
        due.is("bytes then", x.count(8), 20);
        due.is("end(20)", x.end(20), true);
        due.is("end(7)", x.end(7), true);
        due.is("bytes then", x.count(8), 7);
        due.is("end(8)", x.end(8), false);
        due.is("end(MIN)", x.end(Integer.MIN_VALUE), false);
        due.is("end(MAX)", x.end(Integer.MAX_VALUE), false);
    }

    private static void fault(String text, int want) {
        KeyFists x = new KeyFists();
        due.is("fault of '" + text + "'", Due.fault(x, text), want);
        due.is("code of '" + text + "'", x.code() == -1, want != -1);
        due.is("bytes behind code of '" + text + "'", x.count(8), want == -1 ? 0 : text.length());
    }

    private static void faultsOfTokens() {
        fault("", 0);
        fault(" \n ", 3);
        fault("letter e 1;", -1);
        fault("\n letter\ne\n1\n;\n ", -1);
        fault("letter e1;", -1);
        fault("letter e1;letter t2;", -1);
        fault("lettere 1;", 0);
        fault("letter e 1 1;", 11);
        fault("letter e 1;;", 11);
        fault(";", 0);
        fault("1", 0);
        fault("lette", 0);
        fault("letters e 1;", 0);
        fault("better e 1;", 0);
        fault("letten e 1;", 0);
        fault("cord a is eee;", 0);
        fault("Letter e 1;", 0);
        fault("leTter e 1;", 0);
        fault("letter e 1;\t", 11);
        fault("letter e 1; x", 12);
        fault("letter e 1; {", 12);
        fault("letter e 1; `", 12);
        fault("letter e 1: ", 10);
        fault("letter e 1/;", 10);
        fault("letter! e 1;", 6);
        fault("letter e 12", 11);
        fault("letter e 12  ", 13);
        fault("letter e", 8);
        fault("letter", 6);
        fault("letter e 1;letter", 17);
        fault("letter e 1;\0", 11);
        fault("letter e 1;\r\n", 11);
    }

    private static void faultsOfLetters() {
        fault("letter ee 1;", 7);
        fault("letter 1 1;", 7);
        fault("letter ; 1;", 7);
        fault("letter e e;", 9);
        fault("letter e ;", 9);
        fault("letter e 0;", 9);
        fault("letter e 13;", 9);
        fault("letter e 01;", 9);
        fault("letter e 10;", 9);
        fault("letter e 19;", 9);
        fault("letter e 11111;", -1);
        fault("letter e 22222;", -1);
        fault("letter e 111111;", 9);
        fault("letter e 1letter", 10);
        fault("letter e 1 letter", 11);
    }

    private static void faultsOfWords() {
        String e = "letter e 1;letter t 2;";
        fault(e + "word a is tee;", -1);
        fault(e + "word abcdefgh is tee;", -1);
        fault(e + "word abcdefghi is tee;", 27);
        fault(e + "word letter is tee;", 27);
        fault(e + "word word is tee;", 27);
        fault(e + "word is is tee;", 27);
        fault(e + "word 1 is tee;", 27);
        fault(e + "word ; is tee;", 27);
        fault(e + "word a was tee;", 29);
        fault(e + "word a as tee;", 29);
        fault(e + "word a it tee;", 29);
        fault(e + "word as is tee;word it is eee;word wore is ttt;word better is tet;", -1);
        fault(e + "word ab is tee;word cb is eee;word ac is ete;word ab is ttt;", 72);
        fault(e + "word a tee;", 29);
        fault(e + "word a is te;", 32);
        fault(e + "word a is teet;", 32);
        fault(e + "word a is 112;", 32);
        fault(e + "word a is tea;", 32);
        fault(e + "word a is tee", 35);
        fault(e + "word a is tee word", 36);
        fault(e + "word a is tee 1", 36);
        fault(e + "word letters is ttt;word words is eee;word iss is ete;", -1);
        fault("word a is tee;letter t 2;letter e 1;", 10);
        fault("letter t 2;word a is tet;letter e 1;", 21);
        fault("letter t 2;word a is ttt;letter e 1;word b is eet;", -1);
    }

    private static void whatIsToldAlready() {
        fault("letter e 1;letter e 2;", 18);
        fault("letter e 1;letter t 1;", 20);
        fault("letter e 1;letter t 11;letter a 111;letter b 11111;", -1);
        String e = "letter e 1;letter t 2;";
        fault(e + "word a is tee;word a is ett;", 41);
        fault(e + "word a is tee;word b is tee;", 46);
        fault("letter a 1;letter e 2;letter t 1;", 31);
        fault(e + "word a is tee;word aa is ete;word ab is eet;", -1);
        // alike is what is of one kind alone
        fault(e + "word e is tee;word t is eee;", -1);
        fault(e + "word tee is tee;word ett is ete;", -1);
    }

    private static void manyWords() {
        StringBuilder text = new StringBuilder("letter e 1;letter t 2;letter a 12;");
        for (int word = 0; word < 20; word++) {
            text.append("word ").append((char) ('a' + word)).append(" is ").append("eta".charAt(word % 3))
                .append("eta".charAt(word / 3 % 3)).append("eta".charAt(word / 9)).append(';');
        }
        fault(text.toString(), -1);
        int length = text.length();
        fault(text + " word z is aaa;", length + 1);
        fault(text + "word ", length);
        fault(text + "letter z 111;", -1);
        KeyFists x = new KeyFists();
        due.is("code of 20 words", Due.code(x, text.toString()), 20);
        due.is("group(19)", x.group(19), groupOf(text, 19));
        due.is("group(20)", x.group(20), -1);
        due.is("all letters", Due.code(x, Due.morse()), 0);
        due.is("letters", x.count(0), 26);
    }

    private static int groupOf(StringBuilder text, int word) {
        String line = text.toString().split(";")[3 + word];
        String group = line.substring(line.length() - 3);
        return ((group.charAt(0) - 'a') * 26 + group.charAt(1) - 'a') * 26 + group.charAt(2) - 'a';
    }

    private static void code() {
        KeyFists x = new KeyFists();
        due.is("code", Due.code(x, "letter e 1;letter t 2;word a is eee;word b is tte;"), 2);
        due.is("bytes then", x.count(8), 0);
        due.is("code of nothing", x.code(), -1);
        due.is("words stay", x.count(1), 2);
        due.is("code with a FAULT", Due.code(x, "letter a 1;letter b 2; word c is aaa; x"), -1);
        due.is("the text stays", x.count(8), 39);
        due.is("the CODE stays", x.marks(4), 1);
        due.is("no letter of the other", x.marks(0), -1);
        due.is("its GROUPS stay", x.group(1), 19 * 676 + 19 * 26 + 4);
        due.is("fault() alone changes nothing", Due.fault(x, "letter a 1;"), -1);
        due.is("no letter yet", x.marks(0), -1);
        due.is("letters yet", x.count(0), 2);
        due.is("code in place of it", x.code(), 0);
        due.is("letter", x.marks(0), 1);
        due.is("letter ahead", x.marks(4), -1);
        due.is("group ahead", x.group(0), -1);
        due.is("letters", x.count(0), 1);
        due.is("letters of the CODE ahead aren't told", Due.fault(x, "letter e 1; word b is aaa;"), 22);
        due.is("names of the CODE ahead aren't told", Due.code(x, "letter e 1; word a is eee;"), 1);
    }

    private static void marksAndGroups() {
        KeyFists x = new KeyFists();
        Due.code(x, "letter a 12;letter z 22222;letter m 1;word one is zzz;word two is aaa;word six is azm;");
        due.is("marks(0)", x.marks(0), 12);
        due.is("marks(25)", x.marks(25), 22222);
        due.is("marks(12)", x.marks(12), 1);
        due.is("marks(1)", x.marks(1), -1);
        due.is("marks(-1)", x.marks(-1), -1);
        due.is("marks(26)", x.marks(26), -1);
        due.is("marks(MAX)", x.marks(Integer.MAX_VALUE), -1);
        due.is("group(0)", x.group(0), 17575);
        due.is("group(1)", x.group(1), 0);
        due.is("group(2)", x.group(2), 25 * 26 + 12);
        due.is("group(3)", x.group(3), -1);
        due.is("group(-1)", x.group(-1), -1);
        due.is("group(MIN)", x.group(Integer.MIN_VALUE), -1);
    }

    private static void mended() {
        KeyFists x = new KeyFists();
        Due.code(x, "letter a 12;letter e 1;letter t 2;word p is tea;word q is tat;word r is eta;word s is eat;");
        int tea = 19 * 676 + 4 * 26;
        due.is("mended tea 0", x.mended(tea, 0, -1), 1);
        due.is("mended tea 0, 0", x.mended(tea, 0, 0), 0);
        due.is("mended tea 0, 1", x.mended(tea, 0, 1), -1);
        due.is("mended tea 1", x.mended(tea, 1, -1), 1);
        due.is("mended tea 2", x.mended(tea, 2, -1), 3);
        due.is("mended tea 2, 0", x.mended(tea, 2, 0), 0);
        due.is("mended tea 2, 1", x.mended(tea, 2, 1), 1);
        due.is("mended tea 2, 2", x.mended(tea, 2, 2), 2);
        due.is("mended tea 2, 3", x.mended(tea, 2, 3), -1);
        due.is("mended tea 3", x.mended(tea, 3, -1), 4);
        due.is("mended tea 3, 3", x.mended(tea, 3, 3), 3);
        due.is("mended of untold letters", x.mended(17575, 2, -1), 0);
        due.is("mended of untold letters, 3", x.mended(17575, 3, -1), 4);
        due.is("mended one letter at each place", x.mended(tea + 1, 1, -1), 1);
        due.is("mended one letter at each place", x.mended(tea + 26, 1, -1), 1);
        due.is("mended one letter at each place", x.mended(tea + 676, 1, 0), 0);
        due.is("mended -1", x.mended(-1, 3, -1), -1);
        due.is("mended 17576", x.mended(17576, 3, -1), -1);
        due.is("mended off -1", x.mended(tea, -1, -1), -1);
        due.is("mended off 4", x.mended(tea, 4, -1), -1);
        due.is("mended k -2", x.mended(tea, 3, -2), -1);
        due.is("mended k 4", x.mended(tea, 3, 4), -1);
    }
}
