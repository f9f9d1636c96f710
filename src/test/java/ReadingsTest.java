/** Promises 15 and 16: READINGS, how many and the NEAREST. */
public final class ReadingsTest {
    private static final Due due = new Due("ReadingsTest");

    public static void main(String[] args) {
        whatThereIsNot();
        edgesOfKinds();
        biteIsPutBack();
        howMany();
        nearestByCost();
        nearestOfLikeOnes();
        longest();
        due.end();
    }

    private static String nearest(KeyFists x, int hand, int line) {
        StringBuilder row = new StringBuilder();
        for (int k = 0; k < x.nearest(hand, line, -1); k++) {
            row.append((char) x.nearest(hand, line, k));
        }
        return row.toString();
    }

    private static KeyFists etA() {
        KeyFists x = new KeyFists();
        Due.code(x, "letter e 1;letter t 2;letter a 12;");
        x.hand(10020, 30050, 10015, 16030, 31060);
        x.line(0, 1, 0, 0);
        return x;
    }

    private static void whatThereIsNot() {
        KeyFists x = etA();
        due.is("readings of an empty TAPE", x.readings(0, 0), -1);
        due.is("nearest of an empty TAPE", x.nearest(0, 0, -1), -1);
        Due.tape(x, 15);
        due.is("readings", x.readings(0, 0), 1);
        due.is("readings(1, 0)", x.readings(1, 0), -1);
        due.is("readings(0, 1)", x.readings(0, 1), -1);
        due.is("readings(-1, 0)", x.readings(-1, 0), -1);
        due.is("readings(0, -1)", x.readings(0, -1), -1);
        due.is("readings(MAX, MIN)", x.readings(Integer.MAX_VALUE, Integer.MIN_VALUE), -1);
        due.is("nearest(1, 0, -1)", x.nearest(1, 0, -1), -1);
        due.is("nearest(0, 1, -1)", x.nearest(0, 1, -1), -1);
        due.is("nearest(-1, 0, -2)", x.nearest(-1, 0, -2), -1);
        due.is("nearest(0, -1, -2)", x.nearest(0, -1, -2), -1);
        due.is("nearest(0, 0, 0)", x.nearest(0, 0, 0), 'e');
        due.is("nearest(0, 0, 1)", x.nearest(0, 0, 1), -1);
        due.is("nearest(0, 0, -3)", x.nearest(0, 0, -3), -1);
        due.is("nearest(0, 0, -2)", x.nearest(0, 0, -2), 0);
        x.length(12);
        due.is("readings with a gap at the end", x.readings(0, 0), -1);
        due.is("nearest with a gap at the end", x.nearest(0, 0, -1), -1);
        Due.tape(x, 25);
        due.is("readings between the KINDS", x.readings(0, 0), 0);
        due.is("nearest without a READING", x.nearest(0, 0, -1), -1);
        due.is("its COST", x.nearest(0, 0, -2), -1);
        due.is("its first byte", x.nearest(0, 0, 0), -1);
        Due.tape(x, 35, 12, 15);
        due.is("readings as no letter's MARKS", x.readings(0, 0), 0);
        KeyFists y = new KeyFists();
        y.hand(10020, 30050, 10015, 16030, 31060);
        y.line(0, 1, 0, 0);
        y.length(15);
        due.is("readings without a CODE", y.readings(0, 0), 0);
        due.is("nearest without a CODE", y.nearest(0, 0, -1), -1);
    }

    private static void edgesOfKinds() {
        KeyFists x = etA();
        int[][] marks = {{9, 0}, {10, 'e'}, {20, 'e'}, {21, 0}, {29, 0}, {30, 't'}, {50, 't'}, {51, 0}, {999, 0}};
        for (int[] of : marks) {
            Due.tape(x, of[0]);
            due.is("readings of " + of[0], x.readings(0, 0), of[1] == 0 ? 0 : 1);
            due.is("nearest of " + of[0], x.nearest(0, 0, 0), of[1] == 0 ? -1 : of[1]);
        }
        String[][] gaps = {{"9", ""}, {"10", "a"}, {"15", "a"}, {"16", "et"}, {"30", "et"}, {"31", "e t"}, {"60", "e t"},
            {"61", ""}};
        for (String[] of : gaps) {
            Due.tape(x, 15, Integer.parseInt(of[0]), 40);
            due.is("nearest with the gap " + of[0], nearest(x, 0, 0), of[1]);
            due.is("readings with the gap " + of[0], x.readings(0, 0), of[1].isEmpty() ? 0 : 1);
        }
    }

    private static void biteIsPutBack() {
        KeyFists x = etA();
        x.line(0, 1, 4, 1);
        x.rain(2);
        Due.tape(x, 4, 16, 24);
        due.is("nearest with the BITE", nearest(x, 0, 1), "a");
        due.is("its COST", x.nearest(0, 1, -2), 10 + 5 + 20);
        due.is("readings by the other LINE", x.readings(0, 0), 0);
        Due.tape(x, 14, 66, 44);
        due.is("nearest at the greatest", nearest(x, 0, 1), "e t");
        Due.tape(x, 14, 67, 44);
        due.is("above the greatest", x.readings(0, 1), 0);
        Due.tape(x, 14, 5, 44);
        due.is("a gap of less than nothing as sent", x.readings(0, 1), 0);
        Due.tape(x, 3, 16, 24);
        due.is("below the least", x.readings(0, 1), 0);
        x.rain(3);
        due.is("more RAIN", x.readings(0, 1), 0);
        Due.tape(x, 3, 17, 24);
        due.is("more RAIN", x.readings(0, 1), 1);
    }

    private static void howMany() {
        KeyFists x = new KeyFists();
        Due.code(x, "letter e 1;letter t 2;letter a 12;");
        x.hand(10020, 15050, 10020, 15030, 20060);
        x.line(0, 1, 0, 0);
        Due.tape(x, 15);
        due.is("one mark, either KIND", x.readings(0, 0), 2);
        Due.tape(x, 15, 20, 15);
        due.is("all KINDS at all places", x.readings(0, 0), 4 * 2 + 1);
        Due.tape(x, 15, 17, 15);
        due.is("no blank", x.readings(0, 0), 4 + 1);
        Due.tape(x, 15, 40, 15);
        due.is("blanks alone", x.readings(0, 0), 4);
        Due.tape(x, 15, 20, 15, 20, 15);
        due.is("three marks", x.readings(0, 0), 8 * 4 + 2 * 2 * 2);
    }

    private static void longest() {
        KeyFists x = new KeyFists();
        Due.code(x, Due.morse());
        x.hand(1255, 1255, 1255, 1255, 1255);
        x.line(0, 1, 0, 0);
        for (int place = 0; place < 119; place++) {
            x.length(1);
        }
        due.is("readings of the longest", x.readings(0, 0), 1000000000);
        due.is("its NEAREST", x.nearest(0, 0, -1), nearest(x, 0, 0).length());
        due.is("its COST", x.nearest(0, 0, -2), 119 * 254);
        due.is("what is no place", x.nearest(0, 0, 119), -1);
        x.cut(1);
        due.is("readings of one mark", x.readings(0, 0), 2);
        x.length(1);
        x.length(1);
        due.is("readings of two marks", x.readings(0, 0), 4 + 2 * 2 * 2);
        KeyFists y = new KeyFists();
        Due.code(y, "letter z 2;letter y 1;");
        y.hand(1001, 5005, 255255, 1001, 1001);
        y.line(0, 1, 0, 0);
        for (int place = 0; place < 119; place++) {
            y.length(place % 2 == 0 && place % 3 == 0 ? 5 : 1);
            if (place == 58) {
                due.is("readings of 30 marks", y.readings(0, 0), 536870912);
            } else if (place == 60) {
                due.is("readings of 31 marks", y.readings(0, 0), 1000000000);
            }
        }
        due.is("readings of 60 marks", y.readings(0, 0), 1000000000);
        due.is("no blank if it can be", y.nearest(0, 0, -1), 60);
        due.is("the 60th byte", y.nearest(0, 0, 59), 'y');
        KeyFists z = new KeyFists();
        Due.code(z, "letter z 2;letter y 1;");
        z.hand(1001, 5005, 255255, 5005, 1001);
        z.line(0, 1, 0, 0);
        for (int place = 0; place < 119; place++) {
            z.length(1);
        }
        due.is("readings with blanks alone", z.readings(0, 0), 1);
        due.is("bytes with blanks alone", z.nearest(0, 0, -1), 119);
        due.is("the last blank", z.nearest(0, 0, 117), ' ');
        due.is("the last byte", z.nearest(0, 0, 118), 'y');
    }

    private static void nearestByCost() {
        KeyFists x = new KeyFists();
        Due.code(x, "letter e 1;letter t 2;letter a 12;");
        x.hand(10020, 15055, 10020, 15034, 20060);
        x.line(0, 1, 0, 0);
        Due.tape(x, 16);
        due.is("a DOT", nearest(x, 0, 0), "e");
        due.is("its COST", x.nearest(0, 0, -2), 2);
        Due.tape(x, 20, 20, 35);
        due.is("the COST of gaps", nearest(x, 0, 0), "et");
        due.is("the COST", x.nearest(0, 0, -2), 10 + 9 + 0);
        Due.tape(x, 20, 33, 35);
        due.is("a blank costs less", nearest(x, 0, 0), "e t");
        due.is("the COST", x.nearest(0, 0, -2), 10 + 14 + 0);
        Due.tape(x, 20, 17, 35);
        due.is("a letter of two MARKS costs less", nearest(x, 0, 0), "a");
        due.is("the COST", x.nearest(0, 0, -2), 10 + 4);
        x.hand(10021, 15055, 10020, 15035, 20060);
        Due.tape(x, 15);
        due.is("twice the length keeps halves", x.nearest(1, 0, -2), 1);
    }

    private static void nearestOfLikeOnes() {
        KeyFists x = new KeyFists();
        Due.code(x, "letter z 1;letter m 2;letter b 12;letter c 21;letter y 11;");
        x.hand(10020, 10020, 10020, 10020, 10020);
        x.line(0, 1, 0, 0);
        Due.tape(x, 15);
        due.is("the lesser letter", nearest(x, 0, 0), "m");
        Due.tape(x, 15, 15, 15);
        due.is("the lesser letter of two MARKS", nearest(x, 0, 0), "b");
        Due.tape(x, 15, 15, 15, 15, 15);
        due.is("then one without a blank", nearest(x, 0, 0), "bm");
        KeyFists y = new KeyFists();
        Due.code(y, "letter a 1;letter z 2;letter b 11;");
        y.hand(10020, 10020, 10020, 10020, 10020);
        y.line(0, 1, 0, 0);
        Due.tape(y, 15, 15, 15);
        due.is("a letter is ahead of a blank", nearest(y, 0, 0), "aa");
        Due.tape(y, 15, 15, 15, 15, 15);
        due.is("a letter is ahead of a blank twice", nearest(y, 0, 0), "aaa");
        KeyFists w = new KeyFists();
        Due.code(w, "letter a 1;letter z 222;letter y 22;");
        w.hand(10020, 30040, 10020, 10020, 10020);
        w.line(0, 1, 0, 0);
        Due.tape(w, 15, 15, 35, 15, 35);
        due.is("a greater letter is ahead of a blank", nearest(w, 0, 0), "ay");
    }
}
