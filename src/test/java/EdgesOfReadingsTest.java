/** Promises 15 and 16 at their edges: a case of its own for each sentence that names one. */
public final class EdgesOfReadingsTest {
    private static final Due due = new Due("EdgesOfReadingsTest");
    private static final int MIN = Integer.MIN_VALUE;
    private static final int MAX = Integer.MAX_VALUE;
    private static final int NONE = KeyFists.NONE;
    private static final int COST = -2;

    public static void main(String[] args) {
        noneSuch();
        notWhole();
        noCode();
        betweenLeastAndGreatest();
        whatTheBiteTookPutBack();
        theGreatestBite();
        marksOfALetterBetweenGaps();
        oneReadingAtEachPlace();
        aThousandMillionAtMost();
        manyWaysThatComeToNothing();
        nearestThereIsNone();
        nearestNoneSuch();
        nearestOfOneByteAndOf119();
        costOfEdges();
        costIsWhatComesFirst();
        ofLikeOnesTheLesserLetter();
        ofLikeOnesThatWithoutABlank();
        theFirstUnlikePlaceDecides();
        due.end();
    }

    private static KeyFists plain() {
        KeyFists x = new KeyFists();
        Due.code(x, "letter e 1;letter t 2;letter a 12;");
        x.hand(10020, 30050, 10015, 16030, 31060);
        x.line(0, 1, 0, 0);
        return x;
    }

    private static String nearest(KeyFists x, int hand, int line) {
        StringBuilder row = new StringBuilder();
        int size = x.nearest(hand, line, NONE);
        for (int k = 0; k < size; k++) {
            row.append((char) x.nearest(hand, line, k));
        }
        due.is("the byte behind the last one", x.nearest(hand, line, Math.max(0, size)), NONE);
        return row.toString();
    }

    // 15: readings

    private static void noneSuch() {
        KeyFists x = new KeyFists();
        Due.code(x, "letter e 1;");
        Due.tape(x, 15);
        due.is("readings without HAND and LINE", x.readings(0, 0), NONE);
        x.line(0, 1, 0, 0);
        due.is("readings without HAND", x.readings(0, 0), NONE);
        due.is("nearest without HAND", x.nearest(0, 0, NONE), NONE);
        KeyFists y = new KeyFists();
        Due.code(y, "letter e 1;");
        Due.tape(y, 15);
        y.hand(10020, 10020, 10020, 10020, 10020);
        due.is("readings without LINE", y.readings(0, 0), NONE);
        due.is("nearest without LINE", y.nearest(0, 0, NONE), NONE);
        y.line(0, 1, 0, 0);
        due.is("readings with both", y.readings(0, 0), 1);
        for (int number = 1; number < 8; number++) {
            y.hand(10020, 10020, 10020, 10020, 10020);
            y.line(0, 1, 0, 0);
        }
        due.is("readings of the last ones", y.readings(7, 7), 1);
        for (int number : new int[] {MIN, -2, -1, 8, 9, MAX}) {
            due.is("readings(" + number + ", 0)", y.readings(number, 0), NONE);
            due.is("readings(0, " + number + ")", y.readings(0, number), NONE);
            due.is("readings(" + number + ", " + number + ")", y.readings(number, number), NONE);
            due.is("nearest(" + number + ", 0, -1)", y.nearest(number, 0, NONE), NONE);
            due.is("nearest(0, " + number + ", -1)", y.nearest(0, number, NONE), NONE);
            due.is("nearest(" + number + ", 0, -2)", y.nearest(number, 0, COST), NONE);
            due.is("nearest(0, " + number + ", 0)", y.nearest(0, number, 0), NONE);
        }
    }

    private static void notWhole() {
        KeyFists x = plain();
        due.is("readings of an empty TAPE", x.readings(0, 0), NONE);
        due.is("nearest of an empty TAPE", x.nearest(0, 0, NONE), NONE);
        due.is("COST of an empty TAPE", x.nearest(0, 0, COST), NONE);
        x.length(15);
        due.is("readings of a mark", x.readings(0, 0), 1);
        x.length(20);
        due.is("readings with a gap behind it", x.readings(0, 0), NONE);
        due.is("nearest with a gap behind it", x.nearest(0, 0, NONE), NONE);
        due.is("COST with a gap behind it", x.nearest(0, 0, COST), NONE);
        due.is("byte with a gap behind it", x.nearest(0, 0, 0), NONE);
        x.length(15);
        due.is("readings of two marks", x.readings(0, 0), 1);
    }

    private static void noCode() {
        KeyFists x = new KeyFists();
        x.hand(10020, 30050, 10015, 16030, 31060);
        x.line(0, 1, 0, 0);
        x.length(15);
        due.is("readings without a CODE", x.readings(0, 0), 0);
        due.is("nearest without a CODE", x.nearest(0, 0, NONE), NONE);
        due.is("COST without a CODE", x.nearest(0, 0, COST), NONE);
        due.is("a CODE", Due.code(x, "letter e 1;"), 0);
        due.is("readings with one", x.readings(0, 0), 1);
        due.is("a CODE in its place", Due.code(x, "letter e 2;"), 0);
        due.is("readings with that", x.readings(0, 0), 0);
    }

    private static void betweenLeastAndGreatest() {
        KeyFists x = plain();
        int[][] marks = {{1, 0}, {9, 0}, {10, 'e'}, {20, 'e'}, {21, 0}, {29, 0}, {30, 't'}, {50, 't'}, {51, 0}, {999, 0}};
        for (int[] of : marks) {
            Due.tape(x, of[0]);
            due.is("readings of " + of[0], x.readings(0, 0), of[1] == 0 ? 0 : 1);
            due.is("nearest of " + of[0], nearest(x, 0, 0), of[1] == 0 ? "" : "" + (char) of[1]);
        }
        String[] gaps = {"1", "", "9", "", "10", "a", "15", "a", "16", "et", "30", "et", "31", "e t", "60", "e t", "61", "",
            "999", ""};
        for (int i = 0; i < gaps.length; i += 2) {
            Due.tape(x, 15, Integer.parseInt(gaps[i]), 40);
            due.is("readings with the gap " + gaps[i], x.readings(0, 0), gaps[i + 1].isEmpty() ? 0 : 1);
            due.is("nearest with the gap " + gaps[i], nearest(x, 0, 0), gaps[i + 1]);
        }
    }

    private static void whatTheBiteTookPutBack() {
        KeyFists x = new KeyFists();
        Due.code(x, "letter e 1;letter t 2;letter a 12;");
        x.hand(110120, 130150, 10015, 16030, 31060);
        for (int line = 0; line < 3; line++) {
            x.line(0, 1, new int[] {0, 1, 99}[line], 0);
        }
        int[] bites = {0, 1, 99};
        for (int line = 0; line < 3; line++) {
            int bite = bites[line];
            for (int sent : new int[] {109, 110, 120, 121, 129, 130, 150, 151}) {
                Due.tape(x, sent - bite);
                boolean lies = sent >= 110 && sent <= 120 || sent >= 130 && sent <= 150;
                due.is("a mark of " + sent + " bitten by " + bite, x.readings(0, line), lies ? 1 : 0);
                int off = sent <= 120 ? Math.abs(2 * sent - 230) : Math.abs(2 * sent - 280);
                due.is("its COST", x.nearest(0, line, COST), lies ? off : NONE);
            }
            for (int sent : new int[] {9, 10, 15, 16, 30, 31, 60, 61}) {
                Due.tape(x, 115 - bite, sent + bite, 140 - bite);
                boolean lies = sent >= 10 && sent <= 60;
                due.is("a gap of " + sent + " longer by " + bite, x.readings(0, line), lies ? 1 : 0);
                String row = !lies ? "" : sent <= 15 ? "a" : sent <= 30 ? "et" : "e t";
                due.is("a gap of " + sent + " longer by " + bite, nearest(x, 0, line), row);
            }
        }
        Due.tape(x, 16, 99, 41);
        due.is("a gap that is the BITE alone", x.readings(0, 2), 0);
        Due.tape(x, 16, 50, 41);
        due.is("a gap less than the BITE", x.readings(0, 2), 0);
        Due.tape(x, 16, 109, 41);
        due.is("a gap of the least and the BITE", x.readings(0, 2), 1);
    }

    private static void theGreatestBite() {
        KeyFists x = new KeyFists();
        Due.code(x, "letter e 1;");
        x.hand(255255, 1255, 1255, 1255, 1001);
        x.line(0, 1, 99, 20);
        x.rain(9);
        due.is("bite(0)", x.bite(0), 279);
        Due.tape(x, 1);
        due.is("a mark that can't have been sent", x.readings(0, 0), 0);
        x.rain(7);
        Due.tape(x, 16);
        due.is("a mark at its greatest", x.readings(0, 0), 1);
        Due.tape(x, 17);
        due.is("a mark above its greatest", x.readings(0, 0), 0);
        Due.tape(x, 16, 255 + 239, 16);
        due.is("a gap at its greatest", x.readings(0, 0), 1);
        Due.tape(x, 16, 256 + 239, 16);
        due.is("a gap above its greatest", x.readings(0, 0), 0);
        Due.tape(x, 16, 1 + 239, 16);
        due.is("a gap at its least", x.readings(0, 0), 2);
        Due.tape(x, 16, 239, 16);
        due.is("a gap below its least", x.readings(0, 0), 0);
        Due.tape(x, 999);
        due.is("the longest mark", x.readings(0, 0), 0);
        Due.tape(x, 16, 999, 16);
        due.is("the longest gap", x.readings(0, 0), 0);
    }

    private static void marksOfALetterBetweenGaps() {
        KeyFists x = new KeyFists();
        Due.code(x, "letter h 11111;letter n 21;");
        x.hand(10020, 30050, 10015, 16030, 31060);
        x.line(0, 1, 0, 0);
        int[] want = {0, 0, 0, 0, 1, 0, 0};
        x.length(15);
        for (int marks = 1; marks <= 7; marks++) {
            due.is(marks + " DOTS without a gap behind a letter", x.readings(0, 0), want[marks - 1]);
            x.length(12);
            x.length(15);
        }
        Due.tape(x, 40, 12, 15);
        due.is("a letter", x.readings(0, 0), 1);
        Due.tape(x, 15, 12, 40);
        due.is("its MARKS the other way round", x.readings(0, 0), 0);
        Due.tape(x, 40, 20, 15);
        due.is("its MARKS in two letters", x.readings(0, 0), 0);
        Due.tape(x, 40, 12, 15, 20, 40);
        due.is("a letter and the beginning of one", x.readings(0, 0), 0);
        Due.tape(x, 15, 40, 40, 12, 15);
        due.is("the end of a letter and one", x.readings(0, 0), 0);
        Due.tape(x, 40, 12, 15, 40, 40, 12, 15);
        due.is("a letter, a blank and a letter", nearest(x, 0, 0), "n n");
    }

    private static void oneReadingAtEachPlace() {
        KeyFists x = new KeyFists();
        Due.code(x, "letter e 1;letter t 2;letter a 12;letter z 22222;");
        x.hand(10020, 15050, 10020, 15030, 20060);
        x.line(0, 1, 0, 0);
        int[][] tapes = {{9, 0}, {14, 1}, {15, 2}, {20, 2}, {21, 1}, {50, 1}, {51, 0}};
        for (int[] of : tapes) {
            Due.tape(x, of[0]);
            due.is("readings of " + of[0], x.readings(0, 0), of[1]);
        }
        // a gap behind a letter, behind a word, or in the letter of both marks
        int[][] gaps = {{9, 0}, {14, 1}, {15, 1 + 4}, {19, 1 + 4}, {20, 1 + 4 + 4}, {21, 4 + 4}, {30, 4 + 4}, {31, 4},
            {60, 4}, {61, 0}};
        for (int[] of : gaps) {
            Due.tape(x, 15, of[0], 15);
            due.is("readings with the gap " + of[0], x.readings(0, 0), of[1]);
        }
    }

    private static void aThousandMillionAtMost() {
        // each mark is one of two letters
        KeyFists x = new KeyFists();
        Due.code(x, "letter e 1;letter t 2;");
        x.hand(10020, 10020, 99099, 10020, 88088);
        // and each gap one of two KINDS
        x.hand(10020, 10020, 99099, 10020, 10020);
        x.line(0, 1, 0, 0);
        x.length(15);
        for (int marks = 1; marks <= 60; marks++) {
            int want = (int) Math.min(1L << Math.min(marks, 40), 1000000000L);
            due.is("readings of " + marks + " marks", x.readings(0, 0), want);
            want = (int) Math.min(1L << Math.min(2 * marks - 1, 40), 1000000000L);
            due.is("readings of " + marks + " marks with blanks", x.readings(1, 0), want);
            x.length(15);
            x.length(15);
        }
        justAThousandMillion();
    }

    /** Five READINGS by each couple of marks and two by each one alone. */
    private static void justAThousandMillion() {
        KeyFists x = new KeyFists();
        Due.code(x, "letter e 1;letter t 2;letter a 12;");
        x.hand(10020, 10020, 10015, 15030, 99099);
        x.line(0, 1, 0, 0);
        long ways = 1;
        for (int couple = 0; couple < 12; couple++) {
            if (couple > 0) {
                x.length(30);
            }
            x.length(12);
            x.length(15);
            x.length(12);
            ways *= 5;
            due.is("readings of " + (couple + 1) + " couples", x.readings(0, 0), ways);
        }
        x.length(30);
        x.length(12);
        x.length(30);
        x.length(12);
        due.is("readings just below", x.readings(0, 0), 976562500);
        x.cut(9 * 4 - 1);
        ways = 1953125;
        for (int single = 0; single < 9; single++) {
            x.length(30);
            x.length(12);
            ways *= 2;
            due.is("readings of 9 couples and " + (single + 1), x.readings(0, 0), ways);
        }
        due.is("just as many as are told", ways, 1000000000);
        x.length(30);
        x.length(12);
        due.is("readings of twice as many", x.readings(0, 0), 1000000000);
    }

    private static void manyWaysThatComeToNothing() {
        KeyFists x = new KeyFists();
        Due.code(x, "letter e 1;letter t 2;");
        x.hand(10020, 10020, 99099, 10020, 10020);
        x.line(0, 1, 0, 0);
        for (int place = 0; place < 119; place++) {
            x.length(place == 0 ? 21 : 15);
        }
        due.is("readings with a first mark that can't be", x.readings(0, 0), 0);
        due.is("nearest with it", x.nearest(0, 0, NONE), NONE);
        x.cut(0);
        for (int place = 0; place < 119; place++) {
            x.length(place == 118 ? 9 : 15);
        }
        due.is("readings with a last mark that can't be", x.readings(0, 0), 0);
        due.is("nearest with it", x.nearest(0, 0, COST), NONE);
        x.cut(117);
        due.is("readings without it", x.readings(0, 0), 1000000000);
        x.length(21);
        x.length(15);
        due.is("readings with a last gap that can't be", x.readings(0, 0), 0);
        due.is("nearest with it", x.nearest(0, 0, 0), NONE);
    }

    // 16: nearest

    private static void nearestThereIsNone() {
        KeyFists x = plain();
        Due.tape(x, 15);
        due.is("nearest ahead of it", nearest(x, 0, 0), "e");
        Due.tape(x, 25);
        for (int k : new int[] {MIN, -3, COST, NONE, 0, 1, MAX}) {
            due.is("nearest(0, 0, " + k + ") where there is none", x.nearest(0, 0, k), NONE);
        }
        Due.tape(x, 40, 12, 15);
        for (int k : new int[] {COST, NONE, 0, 1}) {
            due.is("nearest(0, 0, " + k + ") of no letter", x.nearest(0, 0, k), NONE);
        }
    }

    private static void nearestNoneSuch() {
        KeyFists x = plain();
        Due.tape(x, 15, 40, 40);
        due.is("nearest", x.nearest(0, 0, NONE), 3);
        due.is("nearest(0, 0, 0)", x.nearest(0, 0, 0), 'e');
        due.is("nearest(0, 0, 1)", x.nearest(0, 0, 1), 32);
        due.is("nearest(0, 0, 2)", x.nearest(0, 0, 2), 't');
        due.is("its COST", x.nearest(0, 0, COST), 0 + 11 + 0);
        for (int k : new int[] {MIN, -4, -3, 3, 4, 119, 120, MAX}) {
            due.is("nearest(0, 0, " + k + ")", x.nearest(0, 0, k), NONE);
        }
    }

    private static void nearestOfOneByteAndOf119() {
        KeyFists x = new KeyFists();
        Due.code(x, "letter e 1;letter h 11111;");
        x.hand(10020, 50050, 1001, 2002, 3005);
        x.line(0, 1, 0, 0);
        x.length(15);
        due.is("bytes of one letter", x.nearest(0, 0, NONE), 1);
        for (int mark = 1; mark < 60; mark++) {
            x.length(4);
            x.length(15);
        }
        due.is("bytes of 60 letters and 59 blanks", x.nearest(0, 0, NONE), 119);
        due.is("the first byte", x.nearest(0, 0, 0), 'e');
        due.is("the second byte", x.nearest(0, 0, 1), 32);
        due.is("the last blank", x.nearest(0, 0, 117), 32);
        due.is("the last byte", x.nearest(0, 0, 118), 'e');
        due.is("one behind it", x.nearest(0, 0, 119), NONE);
        due.is("its COST", x.nearest(0, 0, COST), 0);
        x.cut(0);
        for (int place = 0; place < 119; place++) {
            x.length(place % 2 == 0 ? 20 : place % 10 == 9 ? 2 : 1);
        }
        due.is("bytes of 12 letters of five MARKS", x.nearest(0, 0, NONE), 12);
        due.is("the last byte", x.nearest(0, 0, 11), 'h');
        due.is("one behind it", x.nearest(0, 0, 12), NONE);
        due.is("its COST", x.nearest(0, 0, COST), 60 * 10);
    }

    private static void costOfEdges() {
        KeyFists x = new KeyFists();
        Due.code(x, "letter e 1;");
        x.hand(10020, 50050, 99099, 10021, 99099);
        x.hand(1255, 1255, 1255, 1255, 1001);
        x.line(0, 1, 0, 0);
        int[][] marks = {{10, 10}, {11, 8}, {15, 0}, {16, 2}, {20, 10}};
        for (int[] of : marks) {
            Due.tape(x, of[0]);
            due.is("COST of the mark " + of[0], x.nearest(0, 0, COST), of[1]);
        }
        int[][] gaps = {{10, 11}, {15, 1}, {16, 1}, {17, 3}, {21, 11}};
        for (int[] of : gaps) {
            Due.tape(x, 15, of[0], 15);
            due.is("COST of the gap " + of[0], x.nearest(0, 0, COST), of[1]);
        }
        Due.tape(x, 10, 10, 20);
        due.is("COST of all lengths", x.nearest(0, 0, COST), 10 + 11 + 10);
        x.cut(0);
        for (int place = 0; place < 119; place++) {
            x.length(place % 2 == 0 ? 1 : 255);
        }
        due.is("the greatest COST", x.nearest(1, 0, COST), 119 * 254);
    }

    private static void costIsWhatComesFirst() {
        KeyFists x = new KeyFists();
        Due.code(x, "letter a 1;letter b 2;letter c 12;");
        x.hand(10021, 10020, 10020, 10020, 10021);
        x.hand(10020, 10021, 10020, 10021, 10020);
        x.line(0, 1, 0, 0);
        // 31 and 30: a length of 16 is nearer to the first by one, one of 15 to the second
        Due.tape(x, 16);
        due.is("the lesser letter costs less", nearest(x, 0, 0), "a");
        due.is("its COST", x.nearest(0, 0, COST), 1);
        due.is("the greater letter costs less", nearest(x, 1, 0), "b");
        due.is("its COST", x.nearest(1, 0, COST), 1);
        Due.tape(x, 15);
        due.is("the greater letter costs less", nearest(x, 0, 0), "b");
        due.is("its COST", x.nearest(0, 0, COST), 0);
        due.is("the lesser letter costs less", nearest(x, 1, 0), "a");
        Due.tape(x, 15, 16, 15);
        due.is("a blank costs less", nearest(x, 0, 0), "b b");
        due.is("its COST", x.nearest(0, 0, COST), 1);
        due.is("no blank costs less", nearest(x, 1, 0), "aa");
        Due.tape(x, 15, 15, 15);
        due.is("what is one letter costs as much", nearest(x, 0, 0), "bb");
        due.is("its COST", x.nearest(0, 0, COST), 0);
        due.is("a blank costs less than no blank", nearest(x, 1, 0), "a a");
    }

    private static KeyFists allAlike(String code) {
        KeyFists x = new KeyFists();
        Due.code(x, code);
        x.hand(10020, 10020, 10020, 10020, 10020);
        x.line(0, 1, 0, 0);
        return x;
    }

    private static void ofLikeOnesTheLesserLetter() {
        KeyFists x = allAlike("letter z 1;letter y 2;");
        Due.tape(x, 15);
        due.is("the lesser of two letters", nearest(x, 0, 0), "y");
        Due.tape(x, 15, 15, 15);
        due.is("the lesser at both places", nearest(x, 0, 0), "yy");
        KeyFists y = allAlike("letter z 1;letter a 22;letter y 12;");
        Due.tape(y, 15, 15, 15);
        due.is("the lesser of more MARKS", nearest(y, 0, 0), "a");
        Due.tape(y, 15, 15, 15, 15, 15);
        due.is("the lesser first, then what is left", nearest(y, 0, 0), "az");
        KeyFists w = allAlike("letter b 1;letter c 22;letter a 222;");
        Due.tape(w, 15, 15, 15);
        due.is("the lesser first letter", nearest(w, 0, 0), "bb");
        Due.tape(w, 15, 15, 15, 15, 15);
        due.is("the lesser of three MARKS", nearest(w, 0, 0), "a");
        Due.tape(w, 15, 15, 15, 15, 15, 15, 15);
        due.is("the lesser, then the lesser", nearest(w, 0, 0), "ab");
        Due.tape(w, 15, 15, 15, 15, 15, 15, 15, 15, 15);
        due.is("the lesser, then the lesser twice", nearest(w, 0, 0), "abb");
    }

    private static void ofLikeOnesThatWithoutABlank() {
        KeyFists x = allAlike("letter z 1;");
        Due.tape(x, 15, 15, 15);
        due.is("a letter, though z, ahead of a blank", nearest(x, 0, 0), "zz");
        due.is("its bytes", x.nearest(0, 0, NONE), 2);
        due.is("of as many READINGS", x.readings(0, 0), 2);
        KeyFists y = new KeyFists();
        Due.code(y, "letter z 1;");
        y.hand(10020, 10020, 10020, 10024, 10020);
        y.hand(10020, 10020, 10020, 14020, 10020);
        y.hand(10020, 10020, 10020, 10020, 14022);
        y.line(0, 1, 0, 0);
        // 34 and 30: as near at 16
        Due.tape(y, 15, 16, 15);
        due.is("like ones, one above and one below", nearest(y, 0, 0), "zz");
        Due.tape(y, 15, 15, 15);
        due.is("a blank that costs less", nearest(y, 0, 0), "z z");
        due.is("its COST", y.nearest(0, 0, COST), 0);
        Due.tape(y, 15, 17, 15);
        due.is("no blank, which costs less", nearest(y, 0, 0), "zz");
        Due.tape(y, 15, 16, 15);
        due.is("like ones the other way round", y.nearest(1, 0, COST), 2);
        due.is("like ones the other way round", nearest(y, 1, 0), "zz");
        due.is("no blank where one costs more", nearest(y, 2, 0), "zz");
    }

    private static void theFirstUnlikePlaceDecides() {
        KeyFists x = allAlike("letter a 1;letter b 11;letter z 2;");
        Due.tape(x, 15, 15, 15);
        due.is("the lesser letter with another behind it", nearest(x, 0, 0), "aa");
        KeyFists y = new KeyFists();
        // "ay" and "a y", "by": the first place, then the second
        Due.code(y, "letter a 1;letter b 12;letter y 2;letter x 22;");
        y.hand(10020, 30040, 10020, 10020, 10020);
        y.line(0, 1, 0, 0);
        Due.tape(y, 15, 15, 35);
        due.is("the lesser letter ahead of fewer bytes", nearest(y, 0, 0), "ay");
        Due.tape(y, 15, 15, 35, 15, 35);
        due.is("then the lesser letter of two MARKS", nearest(y, 0, 0), "ax");
        KeyFists w = new KeyFists();
        Due.code(w, "letter c 1;letter a 111;letter b 11;");
        w.hand(10020, 30040, 10020, 10020, 10020);
        w.line(0, 1, 0, 0);
        Due.tape(w, 15, 15, 15, 15, 15, 15, 15);
        due.is("the lesser letter first", nearest(w, 0, 0), "ac");
        KeyFists v = new KeyFists();
        Due.code(v, "letter a 1;letter b 2;");
        v.hand(10020, 10020, 50050, 10015, 15020);
        v.line(0, 1, 0, 0);
        Due.tape(v, 15, 15, 15, 16, 15);
        due.is("a blank alone at one gap", nearest(v, 0, 0), "aa a");
        Due.tape(v, 15, 16, 15, 15, 15);
        due.is("a blank alone at the other gap", nearest(v, 0, 0), "a aa");
    }
}
