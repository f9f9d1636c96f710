/** Promises 17 to 19: SUSPECTS, the LIKELIER, and what is KEYED. */
public final class SayingTest {
    private static final Due due = new Due("SayingTest");
    private static final String[] NO_SAYINGS = {"", " ", "e ", " e", "e  t", "e;", "E", "e1", "e\nt", "e\n", "{", "`", "e\0"};

    public static void main(String[] args) {
        suspects();
        suspectsOfTexts();
        likelier();
        likelierByLargeProducts();
        keyDraws();
        keyIsBitten();
        keyIsRefused();
        longestKey();
        due.end();
    }

    private static KeyFists etA() {
        KeyFists x = new KeyFists();
        Due.code(x, "letter e 1;letter t 2;letter a 12;");
        return x;
    }

    private static void suspects() {
        KeyFists x = etA();
        x.hand(10020, 30050, 10015, 16030, 31060);
        x.hand(1255, 1255, 1255, 1255, 1255);
        x.hand(10010, 30030, 10010, 16016, 31031);
        x.line(0, 1, 0, 0);
        x.line(0, 1, 5, 0);
        x.line(0, 1, 0, 10);
        Due.text(x, "a");
        due.is("suspects without a TAPE", x.suspects(-1), -1);
        Due.tape(x, 10, 10, 30);
        due.is("suspects", x.suspects(-1), 7);
        int[] want = {0, 2, 10, 11, 12, 20, 22};
        for (int k = 0; k < want.length; k++) {
            due.is("suspects(" + k + ")", x.suspects(k), want[k]);
        }
        due.is("suspects(7)", x.suspects(7), -1);
        due.is("suspects(-2)", x.suspects(-2), -1);
        x.length(20);
        due.is("suspects with a gap at the end", x.suspects(-1), -1);
        x.cut(3);
        x.rain(1);
        due.is("suspects in RAIN", x.suspects(-1), 4);
        due.is("suspects(1)", x.suspects(1), 10);
        due.is("suspects(2)", x.suspects(2), 11);
        due.is("suspects(3)", x.suspects(3), 20);
    }

    private static void suspectsOfTexts() {
        KeyFists x = etA();
        x.hand(1255, 1255, 1255, 1255, 1255);
        x.line(0, 1, 0, 0);
        Due.tape(x, 10, 10, 30);
        String[] said = {"a", "ee", "e e", "et", "tt", "t e"};
        String[] unsaid = {"z", "azaz", "e", "t", "aa", "ea", "e a", "eee", "e e e", "b", "eb", "bb", "ab", "a b", "eeb", "e eb", "ba"};
        for (String text : said) {
            Due.text(x, text);
            due.is("suspects of '" + text + "'", x.suspects(-1), 1);
            due.is("likelier of '" + text + "'", x.likelier(0, 0, 0), 0);
        }
        for (String text : unsaid) {
            Due.text(x, text);
            due.is("suspects of '" + text + "'", x.suspects(-1), 0);
            due.is("the first of '" + text + "'", x.suspects(0), -1);
            due.is("likelier of '" + text + "'", x.likelier(0, 0, 0), -1);
        }
        for (String text : NO_SAYINGS) {
            Due.text(x, text);
            due.is("suspects of '" + text + "'", x.suspects(-1), -1);
            due.is("likelier of '" + text + "'", x.likelier(0, 0, 0), -1);
        }
        StringBuilder longText = new StringBuilder();
        for (int i = 0; i < 500; i++) {
            longText.append('a');
        }
        Due.text(x, longText.toString());
        due.is("suspects of 500 letters", x.suspects(-1), 0);
        due.is("the text stays", x.count(8), 500);
    }

    private static void likelier() {
        KeyFists x = etA();
        x.hand(10019, 30050, 10015, 16030, 31060);
        x.hand(10029, 30050, 10015, 16030, 31060);
        x.hand(10014, 30071, 10015, 16030, 31060);
        x.hand(10019, 31050, 10015, 16030, 31060);
        x.hand(11019, 30050, 10015, 16030, 31061);
        x.line(0, 1, 0, 0);
        x.line(0, 1, 9, 0);
        Due.tape(x, 12, 20, 12);
        Due.text(x, "ee");
        due.is("alike", x.likelier(0, 0, 0), 0);
        due.is("alike but for a KIND that isn't there", x.likelier(0, 3, 0), 0);
        due.is("10 and 20 lengths", x.likelier(0, 1, 0), 1);
        due.is("20 and 10 lengths", x.likelier(1, 0, 0), 2);
        due.is("10 and 5 lengths", x.likelier(0, 2, 0), 2);
        Due.tape(x, 12, 12, 40);
        Due.text(x, "a");
        due.is("10 by 21 and 5 by 42 lengths", x.likelier(0, 2, 0), 0);
        due.is("21 and 20 lengths", x.likelier(0, 3, 0), 2);
        Due.tape(x, 12, 40, 40);
        Due.text(x, "e t");
        due.is("10 by 30 and 9 by 31 lengths", x.likelier(0, 4, 0), 2);
        due.is("likelier(0, 5, 0)", x.likelier(0, 5, 0), -1);
        due.is("likelier(5, 0, 0)", x.likelier(5, 0, 0), -1);
        due.is("likelier(-1, 0, 0)", x.likelier(-1, 0, 0), -1);
        due.is("likelier(0, -1, 0)", x.likelier(0, -1, 0), -1);
        due.is("likelier(0, 1, 2)", x.likelier(0, 1, 2), -1);
        due.is("likelier(0, 1, -1)", x.likelier(0, 1, -1), -1);
        due.is("by a LINE that bites", x.likelier(0, 1, 1), -1);
        due.is("the one says it alone", x.likelier(1, 0, 1), -1);
        Due.tape(x, 19, 40, 40);
        due.is("the other doesn't say it", x.likelier(0, 2, 0), -1);
        due.is("the one doesn't say it", x.likelier(2, 0, 0), -1);
        x.length(3);
        due.is("likelier with a gap at the end", x.likelier(0, 0, 0), -1);
        x.cut(0);
        due.is("likelier of an empty TAPE", x.likelier(0, 0, 0), -1);
    }

    private static void likelierByLargeProducts() {
        KeyFists x = new KeyFists();
        Due.code(x, "letter i 11;letter e 1;letter t 2;");
        x.hand(1255, 1255, 1255, 1255, 1255);
        x.hand(1255, 1255, 1254, 1255, 1255);
        x.hand(1255, 1255, 1255, 1254, 1255);
        x.hand(1254, 1255, 1255, 1255, 1255);
        x.hand(1255, 1254, 1255, 1255, 1255);
        x.line(0, 1, 0, 0);
        StringBuilder text = new StringBuilder();
        for (int i = 0; i < 60; i++) {
            text.append(i == 7 ? "t" : "e");
        }
        Due.text(x, text.toString());
        due.is("60 letters", x.key(0, 0, 3), 119);
        x.cut(0);
        for (int place = 0; place < 119; place++) {
            x.length(100);
        }
        due.is("alike in 119 lengths", x.likelier(0, 1, 0), 0);
        due.is("254 for 255 at the gaps", x.likelier(0, 2, 0), 2);
        due.is("254 for 255 at one mark", x.likelier(0, 4, 0), 2);
        due.is("254 for 255 at one mark", x.likelier(4, 0, 0), 1);
        due.is("59 gaps against 59 marks", x.likelier(2, 3, 0), 0);
        due.is("59 gaps against one mark", x.likelier(2, 4, 0), 1);
        due.is("one mark against 59", x.likelier(4, 3, 0), 2);
    }

    private static void keyDraws() {
        KeyFists x = etA();
        x.hand(10020, 30050, 10015, 16030, 31060);
        x.line(0, 1, 0, 0);
        Due.text(x, "at e");
        long s = 777;
        int[] least = {10, 10, 30, 16, 30, 31, 10};
        int[] many = {11, 6, 21, 15, 21, 30, 11};
        StringBuilder want = new StringBuilder();
        for (int place = 0; place < 7; place++) {
            s = (s * 1103515245L + 12345) % (1L << 31);
            want.append(place == 0 ? "" : " ").append(least[place] + s / 256 % many[place]);
        }
        due.is("key", x.key(0, 0, 777), 7);
        due.is("its TAPE", Due.tape(x), want.toString());
        due.is("the text stays", x.count(8), 4);
        due.is("lengths", x.count(4), 7);
        due.is("the TAPE says it", x.suspects(0), 0);
        due.is("key by the greatest seed", x.key(0, 0, 1000000), 7);
        s = (1000000L * 1103515245L + 12345) % (1L << 31);
        due.is("its first length", x.tape(0), 10 + s / 256 % 11);
        due.is("key by the least seed", x.key(0, 0, 0), 7);
        due.is("its first length", x.tape(0), 10 + 12345 / 256 % 11);
    }

    private static void keyIsBitten() {
        KeyFists x = new KeyFists();
        Due.code(x, "letter a 12;letter n 21;letter e 1;letter t 2;letter r 121;letter k 212;letter b 2111;letter s 111;");
        x.hand(20020, 50050, 15015, 30030, 70070);
        x.hand(20020, 50050, 15015, 255255, 255255);
        x.line(0, 1, 0, 0);
        x.line(0, 1, 19, 0);
        x.line(0, 1, 10, 10);
        x.line(0, 1, 49, 0);
        x.line(0, 1, 50, 0);
        String[][] tapes = {
            {"a", "0", "20 15 50"}, {"a", "1", "1 34 31"}, {"a", "2", "30"}, {"n", "2", "30"}, {"r", "2", "30"},
            {"k", "2", "30 70 30"}, {"k", "3", "1 99 1"}, {"k", "4", ""}, {"e", "2", ""}, {"b", "2", "30"},
            {"tet", "2", "30 100 30"}, {"t e t", "2", "30 180 30"}, {"tseet", "2", "30 270 30"},
            {"t t", "2", "30 90 30"}, {"e t e", "2", "30"}, {"ee", "2", ""}, {"ana", "2", "30 50 30 120 30"},
            {"ana e", "2", "30 50 30 120 30"}};
        x.rain(1);
        for (String[] of : tapes) {
            Due.text(x, of[0]);
            int size = of[2].isEmpty() ? 0 : of[2].split(" ").length;
            due.is("key of '" + of[0] + "' by LINE " + of[1], x.key(0, Integer.parseInt(of[1]), 5), size);
            due.is("TAPE of '" + of[0] + "' by LINE " + of[1], Due.tape(x), of[2]);
        }
        Due.text(x, "teet");
        due.is("a long gap", x.key(1, 2, 5), 3);
        due.is("a long gap", Due.tape(x), "30 " + (3 * 255 + 40 + 20) + " 30");
        Due.text(x, "teeet");
        due.is("a gap above 999", x.key(1, 2, 5), 3);
        due.is("a gap above 999", Due.tape(x), "30 999 30");
        Due.text(x, "teee");
        due.is("a gap at the end", x.key(1, 2, 5), 1);
    }

    private static void keyIsRefused() {
        KeyFists x = etA();
        x.hand(20020, 50050, 15015, 30030, 70070);
        x.line(0, 1, 0, 0);
        Due.tape(x, 5, 6);
        Due.text(x, "a");
        due.is("key by HAND 1", x.key(1, 0, 0), -1);
        due.is("key by HAND -1", x.key(-1, 0, 0), -1);
        due.is("key by LINE 1", x.key(0, 1, 0), -1);
        due.is("key by LINE -1", x.key(0, -1, 0), -1);
        due.is("key by seed -1", x.key(0, 0, -1), -1);
        due.is("key by seed 1000001", x.key(0, 0, 1000001), -1);
        for (String text : NO_SAYINGS) {
            Due.text(x, text);
            due.is("key of '" + text + "'", x.key(0, 0, 0), -1);
        }
        Due.text(x, "ab");
        due.is("key of a letter without MARKS", x.key(0, 0, 0), -1);
        due.is("the TAPE stays", Due.tape(x), "5 6");
    }

    private static void longestKey() {
        KeyFists x = etA();
        x.hand(20020, 50050, 15015, 30030, 70070);
        x.line(0, 1, 0, 0);
        x.line(0, 1, 99, 0);
        StringBuilder text = new StringBuilder();
        for (int i = 0; i < 30; i++) {
            text.append(i == 0 ? "" : i % 2 == 0 ? " " : "").append("a");
        }
        Due.text(x, text.toString());
        due.is("key of 60 marks", x.key(0, 0, 0), 119);
        due.is("lengths", x.count(4), 119);
        due.is("the last one", x.tape(118), 50);
        Due.text(x, text + "e");
        due.is("key of 61 marks", x.key(0, 0, 0), -1);
        due.is("key of 61 marks, all bitten", x.key(0, 1, 0), -1);
        due.is("lengths", x.count(4), 119);
        due.is("suspects of one letter more than the TAPE has", x.suspects(-1), 0);
        due.is("likelier of one letter more than the TAPE has", x.likelier(0, 0, 0), -1);
        Due.text(x, text.toString());
        due.is("suspects of what the TAPE has", x.suspects(-1), 1);
        Due.text(x, "e" + text.substring(1));
        due.is("key of 59 marks", x.key(0, 0, 0), 117);
        due.is("key of 59 marks, all bitten", x.key(0, 1, 0), 0);
        due.is("lengths", x.count(4), 0);
    }
}
