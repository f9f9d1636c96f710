import java.math.BigInteger;
import java.util.Arrays;

/** Promises 17 to 19 at their edges: a case of its own for each sentence that names one. */
public final class EdgesOfSayingsTest {
    private static final Due due = new Due("EdgesOfSayingsTest");
    private static final int MIN = Integer.MIN_VALUE;
    private static final int MAX = Integer.MAX_VALUE;
    private static final int NONE = KeyFists.NONE;

    public static void main(String[] args) {
        ofLettersAndBlanksAlone();
        noBlankAtItsEndsOrBehindAnother();
        shortestAndLongestSayings();
        saysIt();
        suspectsNoneSuch();
        suspectsOfNone();
        suspectsOfAllCouples();
        suspectsByHandsThenLines();
        suspectsNotWhole();
        likelierNoneSuch();
        likelierSaidByBoth();
        likelierByTheLessProduct();
        likelierByProductsTooGreat();
        seedsThatCanBe();
        seedsThatCantBe();
        theLowest31Bits();
        lengthsOfOneAndOf255();
        keyNoneSuch();
        keyOfNoSaying();
        keyOfALetterWithoutMarks();
        keyOfMoreThan120Lengths();
        keyOfMoreThan120LengthsByTheLastLetter();
        keyInPlaceOfTheTape();
        nothingOrLessLeft();
        goneAtTheEnds();
        goneBetween();
        allGone();
        gapsAbove999();
        due.end();
    }

    private static KeyFists etA() {
        KeyFists x = new KeyFists();
        Due.code(x, "letter e 1;letter t 2;letter a 12;");
        return x;
    }

    private static String times(String what, int times) {
        StringBuilder text = new StringBuilder();
        for (int time = 0; time < times; time++) {
            text.append(what);
        }
        return text.toString();
    }

    // 3: a SAYING

    private static KeyFists whereAllIsSaid() {
        KeyFists x = new KeyFists();
        Due.code(x, Due.morse());
        x.hand(1255, 1255, 1255, 1255, 1255);
        x.line(0, 1, 0, 0);
        return x;
    }

    /** A text that is no SAYING: suspects, likelier and key answer NONE, and nothing is changed. */
    private static void noSaying(String text) {
        KeyFists x = whereAllIsSaid();
        Due.tape(x, 10, 20, 30);
        Due.text(x, text);
        due.is("suspects(-1) of '" + text + "'", x.suspects(NONE), NONE);
        due.is("suspects(0) of '" + text + "'", x.suspects(0), NONE);
        due.is("likelier(0, 0, 0) of '" + text + "'", x.likelier(0, 0, 0), NONE);
        due.is("key(0, 0, 5) of '" + text + "'", x.key(0, 0, 5), NONE);
        due.is("the TAPE stays", Due.tape(x), "10 20 30");
        due.is("the text stays", x.count(8), text.length());
    }

    private static void saying(String text, int lengths) {
        KeyFists x = whereAllIsSaid();
        Due.tape(x, 10);
        Due.text(x, text);
        due.is("suspects(-1) of '" + text + "' is told", x.suspects(NONE) >= 0, true);
        due.is("key(0, 0, 5) of '" + text + "'", x.key(0, 0, 5), lengths);
        due.is("suspects(-1) of '" + text + "' keyed", x.suspects(NONE), 1);
        due.is("likelier(0, 0, 0) of '" + text + "' keyed", x.likelier(0, 0, 0), 0);
        due.is("the text stays", x.count(8), text.length());
    }

    private static void ofLettersAndBlanksAlone() {
        String[] marks = {"12", "2111", "2121", "211", "1", "1121", "221", "1111", "11", "1222", "212", "1211", "22",
            "21", "222", "1221", "2212", "121", "111", "2", "112", "1112", "122", "2112", "2122", "2211"};
        for (char sign = 0; sign < 256; sign++) {
            if (sign >= 'a' && sign <= 'z') {
                int many = marks[sign - 'a'].length();
                saying("" + sign, 2 * many - 1);
                saying("e" + sign + "e", 2 * many + 3);
            } else {
                noSaying("" + sign);
                noSaying(sign + "e");
                noSaying("e" + sign);
                if (sign == ' ') {
                    saying("e" + sign + "e", 3);
                } else {
                    noSaying("e" + sign + "e");
                }
            }
        }
    }

    private static void noBlankAtItsEndsOrBehindAnother() {
        saying("e t", 3);
        saying("e t e", 5);
        saying("ee tt", 7);
        noSaying(" ");
        noSaying("  ");
        noSaying(" e");
        noSaying("e ");
        noSaying(" e t");
        noSaying("e t ");
        noSaying("e  t");
        noSaying("e   t");
        noSaying("e t  e");
        noSaying("e  t e");
        noSaying("e t\n");
    }

    private static void shortestAndLongestSayings() {
        noSaying("");
        saying("e", 1);
        saying("z", 7);
        KeyFists x = whereAllIsSaid();
        Due.tape(x, 10);
        Due.text(x, times("e", 500));
        due.is("suspects of 500 letters", x.suspects(NONE), 0);
        due.is("suspects(0) of 500 letters", x.suspects(0), NONE);
        Due.text(x, times("e ", 250));
        due.is("suspects of 250 letters and blanks", x.suspects(NONE), NONE);
        x.end(499);
        due.is("suspects without the last blank", x.suspects(NONE), 0);
        Due.text(x, times("e", 499) + "!");
        due.is("suspects with a last byte that is none", x.suspects(NONE), NONE);
        noSaying("!" + times("e", 499));
    }

    private static void saysIt() {
        KeyFists x = etA();
        x.hand(10020, 30050, 10015, 16030, 31060);
        x.line(0, 1, 0, 0);
        Object[][] said = {{"e", 1, new int[] {10}}, {"e", 1, new int[] {20}}, {"e", 0, new int[] {9}},
            {"e", 0, new int[] {21}}, {"t", 0, new int[] {29}}, {"t", 1, new int[] {30}}, {"t", 1, new int[] {50}},
            {"t", 0, new int[] {51}}, {"t", 0, new int[] {20}}, {"e", 0, new int[] {30}},
            {"a", 0, new int[] {10, 9, 30}}, {"a", 1, new int[] {10, 10, 30}}, {"a", 1, new int[] {10, 15, 30}},
            {"a", 0, new int[] {10, 16, 30}}, {"et", 0, new int[] {10, 15, 30}}, {"et", 1, new int[] {10, 16, 30}},
            {"et", 1, new int[] {10, 30, 30}}, {"et", 0, new int[] {10, 31, 30}}, {"e t", 0, new int[] {10, 30, 30}},
            {"e t", 1, new int[] {10, 31, 30}}, {"e t", 1, new int[] {10, 60, 30}}, {"e t", 0, new int[] {10, 61, 30}},
            {"ee", 0, new int[] {10}}, {"e", 0, new int[] {10, 20, 10}}, {"eee", 0, new int[] {10, 20, 10}},
            {"ee", 1, new int[] {10, 20, 10}}, {"ee", 0, new int[] {10, 20, 10, 20, 10}},
            {"b", 0, new int[] {10}}, {"eb", 0, new int[] {10}}, {"be", 0, new int[] {10}}, {"z", 0, new int[] {10, 12, 30}}};
        for (Object[] of : said) {
            Due.text(x, (String) of[0]);
            Due.tape(x, (int[]) of[2]);
            String told = " of '" + of[0] + "' by " + Arrays.toString((int[]) of[2]);
            due.is("suspects" + told, x.suspects(NONE), (Integer) of[1]);
            due.is("the first suspect" + told, x.suspects(0), (Integer) of[1] - 1);
            due.is("likelier" + told, x.likelier(0, 0, 0), (Integer) of[1] - 1);
        }
    }

    // 17: suspects

    private static void suspectsNoneSuch() {
        KeyFists x = etA();
        x.hand(10020, 30050, 10015, 16030, 31060);
        x.hand(10020, 30050, 10015, 16030, 31060);
        x.line(0, 1, 0, 0);
        Due.tape(x, 15);
        Due.text(x, "e");
        due.is("suspects", x.suspects(NONE), 2);
        due.is("suspects(0)", x.suspects(0), 0);
        due.is("suspects(1)", x.suspects(1), 10);
        for (int k : new int[] {MIN, -3, -2, 2, 3, 10, MAX}) {
            due.is("suspects(" + k + ")", x.suspects(k), NONE);
        }
    }

    private static void suspectsOfNone() {
        KeyFists x = etA();
        Due.tape(x, 15);
        Due.text(x, "e");
        due.is("suspects without HANDS and LINES", x.suspects(NONE), 0);
        due.is("the first of none", x.suspects(0), NONE);
        x.hand(10020, 30050, 10015, 16030, 31060);
        due.is("suspects without LINES", x.suspects(NONE), 0);
        x.line(0, 1, 6, 0);
        due.is("suspects by a LINE that bites", x.suspects(NONE), 0);
        due.is("the first of none", x.suspects(0), NONE);
        KeyFists y = etA();
        y.line(0, 1, 0, 0);
        Due.tape(y, 15);
        Due.text(y, "e");
        due.is("suspects without HANDS", y.suspects(NONE), 0);
        y.hand(16020, 30050, 10015, 16030, 31060);
        due.is("suspects by a HAND that keys longer", y.suspects(NONE), 0);
        y.hand(15015, 30050, 10015, 16030, 31060);
        due.is("suspects by one that keys so", y.suspects(NONE), 1);
        due.is("the first", y.suspects(0), 10);
        KeyFists z = new KeyFists();
        z.hand(10020, 30050, 10015, 16030, 31060);
        z.line(0, 1, 0, 0);
        Due.tape(z, 15);
        Due.text(z, "e");
        due.is("suspects without a CODE", z.suspects(NONE), 0);
        due.is("likelier without a CODE", z.likelier(0, 0, 0), NONE);
    }

    private static void suspectsOfAllCouples() {
        KeyFists x = etA();
        for (int number = 0; number < 8; number++) {
            x.hand(10020, 30050, 10015, 16030, 31060);
            x.line(0, 1, 0, 0);
        }
        Due.tape(x, 15);
        Due.text(x, "e");
        due.is("suspects", x.suspects(NONE), 64);
        for (int k = 0; k < 64; k++) {
            due.is("suspects(" + k + ")", x.suspects(k), k / 8 * 10 + k % 8);
        }
        due.is("suspects(64)", x.suspects(64), NONE);
    }

    private static void suspectsByHandsThenLines() {
        KeyFists x = etA();
        x.hand(10020, 30050, 10015, 16030, 31060);
        x.hand(40050, 60070, 10015, 16030, 31060);
        x.hand(10050, 60070, 10015, 16030, 31060);
        x.line(0, 1, 30, 0);
        x.line(0, 1, 0, 0);
        x.line(0, 1, 60, 0);
        Due.tape(x, 15);
        Due.text(x, "e");
        int[] want = {1, 10, 20, 21};
        due.is("suspects", x.suspects(NONE), 4);
        for (int k = 0; k < 4; k++) {
            due.is("suspects(" + k + ")", x.suspects(k), want[k]);
        }
        due.is("suspects(4)", x.suspects(4), NONE);
    }

    private static void suspectsNotWhole() {
        KeyFists x = etA();
        x.hand(10020, 30050, 10015, 16030, 31060);
        x.line(0, 1, 0, 0);
        Due.text(x, "e");
        due.is("suspects with an empty TAPE", x.suspects(NONE), NONE);
        due.is("suspects(0) with an empty TAPE", x.suspects(0), NONE);
        due.is("likelier with an empty TAPE", x.likelier(0, 0, 0), NONE);
        x.length(15);
        due.is("suspects with a mark", x.suspects(NONE), 1);
        due.is("likelier with a mark", x.likelier(0, 0, 0), 0);
        x.length(20);
        due.is("suspects with a gap at the end", x.suspects(NONE), NONE);
        due.is("suspects(0) with a gap at the end", x.suspects(0), NONE);
        due.is("likelier with a gap at the end", x.likelier(0, 0, 0), NONE);
        KeyFists y = etA();
        Due.text(y, "e");
        Due.tape(y, 15, 20);
        due.is("suspects with a gap at the end and without HANDS", y.suspects(NONE), NONE);
        y.cut(1);
        due.is("suspects with a mark and without HANDS", y.suspects(NONE), 0);
    }

    // 18: likelier

    private static void likelierNoneSuch() {
        KeyFists x = etA();
        for (int number = 0; number < 3; number++) {
            x.hand(10020, 30050, 10015, 16030, 31060);
        }
        x.line(0, 1, 0, 0);
        x.line(0, 1, 0, 0);
        Due.tape(x, 15);
        Due.text(x, "e");
        due.is("likelier of the last ones", x.likelier(2, 2, 1), 0);
        for (int number : new int[] {MIN, -2, -1, 3, 4, 8, MAX}) {
            due.is("likelier(" + number + ", 0, 0)", x.likelier(number, 0, 0), NONE);
            due.is("likelier(0, " + number + ", 0)", x.likelier(0, number, 0), NONE);
            due.is("likelier(" + number + ", " + number + ", 0)", x.likelier(number, number, 0), NONE);
        }
        for (int number : new int[] {MIN, -2, -1, 2, 3, 8, MAX}) {
            due.is("likelier(0, 0, " + number + ")", x.likelier(0, 0, number), NONE);
        }
    }

    private static void likelierSaidByBoth() {
        KeyFists x = etA();
        x.hand(10020, 30050, 10015, 16030, 31060);
        x.hand(10015, 30050, 10015, 16030, 31060);
        x.line(0, 1, 0, 0);
        x.line(0, 1, 1, 0);
        Due.text(x, "e");
        Due.tape(x, 15);
        due.is("said by both", x.likelier(0, 1, 0), 2);
        due.is("said by the first alone", x.likelier(0, 1, 1), NONE);
        due.is("said by the second alone", x.likelier(1, 0, 1), NONE);
        due.is("said by it", x.likelier(0, 0, 1), 0);
        due.is("not said by it", x.likelier(1, 1, 1), NONE);
        Due.tape(x, 16);
        due.is("said by the first alone", x.likelier(0, 1, 0), NONE);
        due.is("said by the second alone", x.likelier(1, 0, 0), NONE);
        Due.tape(x, 21);
        due.is("said by none", x.likelier(0, 1, 0), NONE);
        Due.tape(x, 20);
        due.is("said by itself", x.likelier(0, 0, 0), 0);
    }

    private static void likelierByTheLessProduct() {
        KeyFists x = etA();
        x.hand(10019, 30050, 10015, 16030, 31060);
        x.hand(10018, 30050, 10015, 16030, 31060);
        x.hand(10010, 1255, 1255, 1255, 1255);
        x.hand(1255, 30030, 1255, 1255, 1255);
        x.hand(11020, 31051, 11016, 17031, 32061);
        x.line(0, 1, 0, 0);
        Due.text(x, "e");
        Due.tape(x, 10);
        due.is("10 and 9 lengths", x.likelier(0, 1, 0), 2);
        due.is("9 and 10 lengths", x.likelier(1, 0, 0), 1);
        due.is("10 lengths and one", x.likelier(0, 2, 0), 2);
        due.is("one length and 255", x.likelier(2, 3, 0), 1);
        due.is("255 lengths and 10", x.likelier(3, 0, 0), 2);
        Due.tape(x, 11);
        due.is("10 lengths each, others", x.likelier(0, 4, 0), 0);
        Due.text(x, "t");
        Due.tape(x, 31);
        due.is("alike in what is there", x.likelier(0, 1, 0), 0);
        // of each KIND that is there alone
        KeyFists y = etA();
        int[] spans = {1100, 1100, 1100, 1100, 1100};
        y.hand(spans[0], spans[1], spans[2], spans[3], spans[4]);
        for (int kind = 0; kind < 5; kind++) {
            spans[kind] = 1099;
            y.hand(spans[0], spans[1], spans[2], spans[3], spans[4]);
            spans[kind] = 1100;
        }
        y.line(0, 1, 0, 0);
        String[] texts = {"e", "t", "a", "et", "e t"};
        String[] kinds = {"0", "1", "012", "013", "014"};
        for (int i = 0; i < 5; i++) {
            Due.text(y, texts[i]);
            Due.tape(y, i < 2 ? new int[] {50} : new int[] {50, 50, 50});
            for (int kind = 0; kind < 5; kind++) {
                boolean isThere = kinds[i].indexOf('0' + kind) >= 0;
                due.is("likelier of '" + texts[i] + "' by KIND " + kind, y.likelier(0, kind + 1, 0), isThere ? 2 : 0);
            }
        }
    }

    private static void likelierByProductsTooGreat() {
        // by 128 and 64 lengths the products are powers of 2: nothing is left of them in 31 or 63 bits
        KeyFists x = etA();
        x.hand(1128, 1128, 1128, 1128, 1128);
        x.hand(1064, 1064, 1064, 1064, 1064);
        x.hand(1128, 1064, 1128, 1128, 1128);
        x.hand(1255, 1255, 1255, 1255, 1255);
        x.hand(1254, 1255, 1255, 1255, 1255);
        x.line(0, 1, 0, 0);
        Due.text(x, "t" + times("e", 59));
        for (int place = 0; place < 119; place++) {
            x.length(50);
        }
        due.is("128 and 64 at 119 lengths", x.likelier(0, 1, 0), 2);
        due.is("64 and 128 at 119 lengths", x.likelier(1, 0, 0), 1);
        due.is("128 and 64 at one of 119 lengths", x.likelier(0, 2, 0), 2);
        due.is("255 and 128", x.likelier(3, 0, 0), 2);
        due.is("255 and 254 at 59 lengths", x.likelier(3, 4, 0), 2);
        due.is("255 and 255 at 119 lengths", x.likelier(3, 3, 0), 0);
        for (int letters = 1; letters < 60; letters++) {
            x.end(letters);
            x.cut(2 * letters - 1);
            due.is("128 and 64 at " + (2 * letters - 1), x.likelier(0, 1, 0), 2);
        }
        // 7 DOTS, 5 DASHES, 4, 5 and 2 gaps: these products are apart by less than one in 10^14
        KeyFists y = etA();
        y.hand(1240, 1208, 1209, 1214, 1212);
        y.hand(1237, 1211, 1204, 1213, 1227);
        y.line(0, 1, 0, 0);
        Due.text(y, "aaa aee et");
        for (int place = 0; place < 23; place++) {
            y.length(50);
        }
        BigInteger one = product(240, 208, 209, 214, 212);
        BigInteger other = product(237, 211, 204, 213, 227);
        due.is("the first product is greater", one.compareTo(other), 1);
        due.is("products that are nearly alike", y.likelier(0, 1, 0), 2);
        due.is("products that are nearly alike", y.likelier(1, 0, 0), 1);
    }

    private static BigInteger product(int dot, int dash, int inside, int behind, int words) {
        return BigInteger.valueOf(dot).pow(7).multiply(BigInteger.valueOf(dash).pow(5))
            .multiply(BigInteger.valueOf(inside).pow(4)).multiply(BigInteger.valueOf(behind).pow(5))
            .multiply(BigInteger.valueOf(words).pow(2));
    }

    // 19: key

    private static final BigInteger FACTOR = BigInteger.valueOf(1103515245);
    private static final BigInteger MORE = BigInteger.valueOf(12345);
    private static final BigInteger BITS = BigInteger.ONE.shiftLeft(31);

    /** The lengths that are drawn where each KIND is that of its place. */
    private static String drawn(int seed, int size, int[] leasts, int[] greatests) {
        StringBuilder row = new StringBuilder();
        BigInteger s = BigInteger.valueOf(seed);
        for (int place = 0; place < size; place++) {
            s = s.multiply(FACTOR).add(MORE).mod(BITS);
            int at = place % leasts.length;
            int many = greatests[at] - leasts[at] + 1;
            int more = s.divide(BigInteger.valueOf(256)).mod(BigInteger.valueOf(many)).intValue();
            row.append(place == 0 ? "" : " ").append(leasts[at] + more);
        }
        return row.toString();
    }

    private static void seedsThatCanBe() {
        KeyFists x = etA();
        x.hand(10020, 30050, 10015, 16030, 31060);
        x.line(0, 1, 0, 0);
        Due.text(x, "ae a");
        int[] leasts = {10, 10, 30, 16, 10, 31, 10, 10, 30};
        int[] greatests = {20, 15, 50, 30, 20, 60, 20, 15, 50};
        for (int seed : new int[] {0, 1, 2, 777, 65535, 65536, 999999, 1000000}) {
            due.is("key(0, 0, " + seed + ")", x.key(0, 0, seed), 9);
            due.is("TAPE of the seed " + seed, Due.tape(x), drawn(seed, 9, leasts, greatests));
        }
    }

    private static void seedsThatCantBe() {
        KeyFists x = etA();
        x.hand(10020, 30050, 10015, 16030, 31060);
        x.line(0, 1, 0, 0);
        Due.text(x, "a");
        Due.tape(x, 7, 8);
        for (int seed : new int[] {MIN, -1000000, -2, -1, 1000001, 1000002, MAX}) {
            due.is("key(0, 0, " + seed + ")", x.key(0, 0, seed), NONE);
            due.is("the TAPE stays", Due.tape(x), "7 8");
            due.is("the text stays", x.count(8), 1);
        }
    }

    private static void theLowest31Bits() {
        for (int seed : new int[] {0, 12, 500000, 1000000}) {
            KeyFists x = etA();
            x.hand(1255, 1255, 1250, 3253, 7249);
            x.line(0, 1, 0, 0);
            Due.text(x, times("e", 60));
            due.is("key of 60 letters", x.key(0, 0, seed), 119);
            due.is("TAPE of the seed " + seed, Due.tape(x), drawn(seed, 119, new int[] {1, 3}, new int[] {255, 253}));
        }
    }

    private static void lengthsOfOneAndOf255() {
        KeyFists x = etA();
        x.hand(1001, 255255, 7007, 1002, 254255);
        x.line(0, 1, 0, 0);
        Due.text(x, "at ea");
        int[] leasts = {1, 7, 255, 1, 255, 254, 1, 1, 1, 7, 255};
        int[] greatests = {1, 7, 255, 2, 255, 255, 1, 2, 1, 7, 255};
        for (int seed = 0; seed < 20; seed++) {
            due.is("key(0, 0, " + seed + ")", x.key(0, 0, seed), 11);
            due.is("TAPE of the seed " + seed, Due.tape(x), drawn(seed, 11, leasts, greatests));
        }
    }

    private static KeyFists fixed() {
        KeyFists x = etA();
        x.hand(20020, 50050, 15015, 30030, 70070);
        return x;
    }

    private static void keyNoneSuch() {
        KeyFists x = fixed();
        Due.text(x, "e");
        Due.tape(x, 7, 8);
        due.is("key without LINES", x.key(0, 0, 0), NONE);
        x.line(0, 1, 0, 0);
        for (int number : new int[] {MIN, -2, -1, 1, 2, 8, MAX}) {
            due.is("key(" + number + ", 0, 0)", x.key(number, 0, 0), NONE);
            due.is("key(0, " + number + ", 0)", x.key(0, number, 0), NONE);
            due.is("key(" + number + ", " + number + ", 0)", x.key(number, number, 0), NONE);
        }
        due.is("the TAPE stays", Due.tape(x), "7 8");
        due.is("key(0, 0, 0)", x.key(0, 0, 0), 1);
        KeyFists y = etA();
        y.line(0, 1, 0, 0);
        Due.text(y, "e");
        due.is("key without HANDS", y.key(0, 0, 0), NONE);
        due.is("the TAPE stays", y.count(4), 0);
    }

    private static void keyOfNoSaying() {
        for (String text : new String[] {"", " ", "e ", " e", "e  e", "e;", "1", "E", "e\n", "\ne"}) {
            KeyFists x = fixed();
            x.line(0, 1, 0, 0);
            x.line(0, 1, 99, 0);
            Due.tape(x, 7, 8);
            Due.text(x, text);
            due.is("key of '" + text + "'", x.key(0, 0, 0), NONE);
            due.is("key of '" + text + "' by a LINE that bites", x.key(0, 1, 0), NONE);
            due.is("the TAPE stays", Due.tape(x), "7 8");
            due.is("the text stays", x.count(8), text.length());
        }
    }

    private static void keyOfALetterWithoutMarks() {
        for (String text : new String[] {"b", "eb", "be", "e b", "b e", "ebe", "eeeeeeb", "z"}) {
            KeyFists x = fixed();
            x.line(0, 1, 0, 0);
            Due.tape(x, 7, 8);
            Due.text(x, text);
            due.is("key of '" + text + "'", x.key(0, 0, 0), NONE);
            due.is("the TAPE stays", Due.tape(x), "7 8");
            due.is("the text stays", x.count(8), text.length());
        }
        KeyFists y = new KeyFists();
        y.hand(20020, 50050, 15015, 30030, 70070);
        y.line(0, 1, 0, 0);
        Due.text(y, "e");
        due.is("key without a CODE", y.key(0, 0, 0), NONE);
        due.is("lengths", y.count(4), 0);
    }

    private static void keyOfMoreThan120Lengths() {
        String[][] texts = {{times("e", 60), times("e", 61)}, {times("a", 30), times("a", 30) + "e"},
            {times("a", 29) + "ee", times("a", 29) + "ea"}, {times("e ", 59) + "e", times("e ", 60) + "e"},
            {times("e", 59) + "t", times("e", 59) + "a"}, {"a " + times("e", 58), "a " + times("e", 59)},
            {times("e", 60), times("e", 500)}, {times("e", 60), times("a", 61)}};
        for (String[] of : texts) {
            KeyFists x = fixed();
            x.line(0, 1, 0, 0);
            x.line(0, 1, 99, 0);
            x.line(0, 1, 20, 0);
            Due.text(x, of[0]);
            due.is("key of 60 marks", x.key(0, 0, 0), 119);
            due.is("lengths", x.count(4), 119);
            due.is("its suspects", x.suspects(NONE), 1);
            Due.text(x, of[1]);
            due.is("key of 61 marks or more", x.key(0, 0, 0), NONE);
            due.is("key of 61 marks or more, all gone", x.key(0, 1, 0), NONE);
            due.is("key of 61 marks or more, many gone", x.key(0, 2, 0), NONE);
            due.is("the TAPE stays", x.count(4), 119);
            due.is("the text stays", x.count(8), of[1].length());
            Due.text(x, of[0]);
            due.is("the TAPE still says what was keyed", x.suspects(NONE), 1);
        }
    }

    /** The last letter, of one to five MARKS, is what makes it 60 marks, or 61. */
    private static void keyOfMoreThan120LengthsByTheLastLetter() {
        String letters = "eimshz";
        for (int marks = 1; marks <= 5; marks++) {
            KeyFists x = new KeyFists();
            Due.code(x, "letter e 1;letter i 11;letter m 222;letter s 1112;letter h 21222;letter z 11111;");
            x.hand(20020, 50050, 15015, 30030, 70070);
            x.line(0, 1, 0, 0);
            char last = letters.charAt(marks - 1);
            for (String gap : new String[] {"", " "}) {
                Due.text(x, times("e", 60 - marks) + gap + last);
                due.is("key of 60 marks with '" + gap + last + "'", x.key(0, 0, 0), 119);
                due.is("its suspects", x.suspects(NONE), 1);
                Due.text(x, times("e", 61 - marks) + gap + last);
                due.is("key of 61 marks with '" + gap + last + "'", x.key(0, 0, 0), NONE);
                due.is("lengths then", x.count(4), 119);
                due.is("suspects of 61 marks", x.suspects(NONE), 0);
                due.is("likelier of 61 marks", x.likelier(0, 0, 0), NONE);
                Due.text(x, times("e", 60) + gap + last);
                due.is("key of " + (60 + marks) + " marks", x.key(0, 0, 0), NONE);
                Due.text(x, last + gap + times("e", 60 - marks));
                due.is("key of 60 marks with it first", x.key(0, 0, 0), 119);
                Due.text(x, last + gap + times("e", 61 - marks));
                due.is("key of 61 marks with it first", x.key(0, 0, 0), NONE);
            }
        }
    }

    private static void keyInPlaceOfTheTape() {
        KeyFists x = fixed();
        x.line(0, 1, 0, 0);
        for (int length = 0; length < 120; length++) {
            x.length(999);
        }
        Due.text(x, "et");
        due.is("key over a TAPE of 120 lengths", x.key(0, 0, 0), 3);
        due.is("the TAPE", Due.tape(x), "20 30 50");
        due.is("length behind it", x.length(5), 4);
        due.is("key over it", x.key(0, 0, 1), 3);
        due.is("the TAPE", Due.tape(x), "20 30 50");
    }

    private static void key(int bite, String text, String want) {
        KeyFists x = fixed();
        x.line(0, 1, bite, 0);
        x.length(77);
        Due.text(x, text);
        due.is("key of '" + text + "' bitten by " + bite, x.key(0, 0, 9), want.isEmpty() ? 0 : want.split(" ").length);
        due.is("TAPE of '" + text + "' bitten by " + bite, Due.tape(x), want);
        due.is("lengths", x.count(4), want.isEmpty() ? 0 : want.split(" ").length);
        due.is("the text stays", x.count(8), text.length());
    }

    private static void nothingOrLessLeft() {
        key(0, "e", "20");
        key(1, "e", "19");
        key(18, "e", "2");
        key(19, "e", "1");
        key(20, "e", "");
        key(21, "e", "");
        key(49, "t", "1");
        key(50, "t", "");
        key(51, "t", "");
        key(19, "tet", "31 49 1 49 31");
        key(20, "tet", "30 " + (30 + 20 + 30 + 20) + " 30");
        key(21, "tet", "29 " + (30 + 20 + 30 + 21) + " 29");
    }

    private static void goneAtTheEnds() {
        key(20, "et", "30");
        key(20, "te", "30");
        key(20, "ete", "30");
        key(20, "a", "30");
        key(20, "e t", "30");
        key(20, "t e", "30");
        key(20, "eet", "30");
        key(20, "tee", "30");
        key(20, "ee t ee", "30");
        key(20, "ett", "30 50 30");
        key(20, "tte", "30 50 30");
        key(20, "e t te e", "30 90 30");
        key(19, "ete", "1 49 31 49 1");
    }

    private static void goneBetween() {
        key(20, "tt", "30 50 30");
        key(20, "t t", "30 90 30");
        key(20, "tet", "30 100 30");
        key(20, "t et", "30 140 30");
        key(20, "te t", "30 140 30");
        key(20, "t e t", "30 180 30");
        key(20, "teet", "30 " + (30 + 20 + 30 + 20 + 30 + 20) + " 30");
        key(20, "ta", "30 " + (30 + 20 + 15 + 20) + " 30");
        key(20, "tetet", "30 100 30 100 30");
        key(20, "ettet", "30 50 30 100 30");
    }

    private static void allGone() {
        key(50, "tet", "");
        key(20, "eee e", "");
        key(99, "aaa t", "");
        KeyFists x = fixed();
        x.line(0, 1, 99, 20);
        x.rain(9);
        Due.text(x, times("e", 60));
        due.is("key with all gone", x.key(0, 0, 0), 0);
        due.is("lengths", x.count(4), 0);
        due.is("tape(0)", x.tape(0), NONE);
        due.is("readings of it", x.readings(0, 0), NONE);
        due.is("length behind it", x.length(5), 1);
    }

    private static void gapsAbove999() {
        int[][] gaps = {{228, 998}, {229, 999}, {230, 999}, {231, 999}, {255, 999}};
        for (int[] of : gaps) {
            KeyFists x = etA();
            x.hand(20020, 50050, 15015, 230230, of[0] * 1000 + of[0]);
            x.line(0, 1, 20, 0);
            Due.text(x, "teee t");
            due.is("key with a gap of " + (3 * 230 + 60 + 20 + of[0]), x.key(0, 0, 0), 3);
            due.is("its TAPE", Due.tape(x), "30 " + of[1] + " 30");
        }
        KeyFists x = etA();
        x.hand(1001, 255255, 15015, 255255, 70070);
        x.line(0, 1, 99, 8);
        x.rain(1);
        Due.text(x, "t" + times("e", 58) + "t");
        due.is("key with the greatest gap", x.key(0, 0, 0), 3);
        due.is("its TAPE", Due.tape(x), "148 999 148");
        Due.text(x, "t" + times("e", 2) + "t");
        due.is("key with a gap below", x.key(0, 0, 0), 3);
        due.is("its TAPE", Due.tape(x), "148 " + (3 * 255 + 2 + 107) + " 148");
    }
}
