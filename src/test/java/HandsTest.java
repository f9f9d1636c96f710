/** Promises 8 to 14 and 31: HANDS, LINES, RAIN, the TAPE, and counts. */
public final class HandsTest {
    private static final Due due = new Due("HandsTest");
    private static final int SPAN = 10020;

    public static void main(String[] args) {
        hand();
        line();
        rainAndBite();
        tape();
        count();
        due.end();
    }

    private static int handWith(KeyFists x, int kind, int span) {
        return x.hand(kind == 0 ? span : SPAN, kind == 1 ? span : SPAN, kind == 2 ? span : SPAN,
            kind == 3 ? span : SPAN, kind == 4 ? span : SPAN);
    }

    private static void hand() {
        int[] wrong = {0, -1, 1000, 20, 255, 999, 256, 256256, 2001, 255254, 1256, 1999, 20019, -10020, 20000,
            Integer.MAX_VALUE, Integer.MIN_VALUE};
        for (int kind = 0; kind < 5; kind++) {
            KeyFists x = new KeyFists();
            for (int span : wrong) {
                due.is("hand with " + span + " as KIND " + kind, handWith(x, kind, span), -1);
            }
            due.is("hands then", x.count(2), 0);
            due.is("hand 1 .. 1", handWith(x, kind, 1001), 0);
            due.is("hand 255 .. 255", handWith(x, kind, 255255), 1);
            due.is("hand 1 .. 255", handWith(x, kind, 1255), 2);
        }
        KeyFists x = new KeyFists();
        for (int hand = 0; hand < 8; hand++) {
            due.is("hand", x.hand(SPAN, SPAN, SPAN, SPAN, SPAN), hand);
            due.is("hands", x.count(2), hand + 1);
        }
        due.is("the ninth hand", x.hand(SPAN, SPAN, SPAN, SPAN, SPAN), -1);
        due.is("hands", x.count(2), 8);
    }

    private static void line() {
        KeyFists x = new KeyFists();
        int[][] wrong = {{-1, 0, 0, 0}, {0, -1, 0, 0}, {6, 0, 0, 0}, {0, 6, 0, 0}, {3, 3, 0, 0}, {0, 1, -1, 0},
            {0, 1, 100, 0}, {0, 1, 0, -1}, {0, 1, 0, 21}, {Integer.MIN_VALUE, 1, 0, 0}, {0, Integer.MAX_VALUE, 0, 0}};
        for (int[] of : wrong) {
            due.is("line(" + of[0] + ", " + of[1] + ", " + of[2] + ", " + of[3] + ")", x.line(of[0], of[1], of[2], of[3]),
                -1);
        }
        due.is("lines", x.count(3), 0);
        due.is("line with the greatest", x.line(5, 0, 99, 20), 0);
        due.is("line with the least", x.line(0, 5, 0, 0), 1);
        due.is("line alike", x.line(0, 5, 0, 0), 2);
        for (int line = 3; line < 8; line++) {
            due.is("line", x.line(1, 2, line, line), line);
        }
        due.is("the ninth line", x.line(1, 2, 0, 0), -1);
        due.is("lines", x.count(3), 8);
        due.is("bite(7)", x.bite(7), 7);
    }

    private static void rainAndBite() {
        KeyFists x = new KeyFists();
        x.line(0, 1, 99, 20);
        x.line(0, 1, 3, 2);
        due.is("bite dry", x.bite(0), 99);
        due.is("rain(9)", x.rain(9), true);
        due.is("bite(0)", x.bite(0), 279);
        due.is("bite(1)", x.bite(1), 21);
        due.is("rain(10)", x.rain(10), false);
        due.is("rain(-1)", x.rain(-1), false);
        due.is("rain(MIN)", x.rain(Integer.MIN_VALUE), false);
        due.is("rain stays", x.count(9), 9);
        due.is("bite stays", x.bite(1), 21);
        due.is("rain(1)", x.rain(1), true);
        due.is("bite(1)", x.bite(1), 5);
        due.is("rain(0)", x.rain(0), true);
        due.is("bite(1)", x.bite(1), 3);
        due.is("bite(2)", x.bite(2), -1);
        due.is("bite(-1)", x.bite(-1), -1);
        due.is("bite(MAX)", x.bite(Integer.MAX_VALUE), -1);
    }

    private static void tape() {
        KeyFists x = new KeyFists();
        due.is("length(0)", x.length(0), -1);
        due.is("length(-1)", x.length(-1), -1);
        due.is("length(1000)", x.length(1000), -1);
        due.is("lengths", x.count(4), 0);
        due.is("length(999)", x.length(999), 1);
        due.is("length(1)", x.length(1), 2);
        for (int k = 2; k < 120; k++) {
            due.is("length", x.length(k), k + 1);
        }
        due.is("length 121", x.length(5), -1);
        due.is("lengths", x.count(4), 120);
        due.is("tape(0)", x.tape(0), 999);
        due.is("tape(1)", x.tape(1), 1);
        due.is("tape(119)", x.tape(119), 119);
        due.is("tape(120)", x.tape(120), -1);
        due.is("tape(-1)", x.tape(-1), -1);
        due.is("cut(121)", x.cut(121), false);
        due.is("cut(-1)", x.cut(-1), false);
        due.is("lengths", x.count(4), 120);
        due.is("cut(120)", x.cut(120), true);
        due.is("cut(2)", x.cut(2), true);
        due.is("tape(1)", x.tape(1), 1);
        due.is("tape(2)", x.tape(2), -1);
        due.is("cut(3)", x.cut(3), false);
        due.is("length behind the cut", x.length(77), 3);
        due.is("tape(2)", x.tape(2), 77);
        due.is("tape(3)", x.tape(3), -1);
        due.is("cut(0)", x.cut(0), true);
        due.is("cut(0)", x.cut(0), true);
        due.is("tape(0)", x.tape(0), -1);
        due.is("lengths", x.count(4), 0);
    }

    private static void count() {
        KeyFists x = new KeyFists();
        Due.code(x, "letter e 1;letter t 2;letter a 12;word a is tee;word b is eee;");
        Due.text(x, "tea for two");
        x.hand(SPAN, SPAN, SPAN, SPAN, SPAN);
        x.line(0, 1, 0, 0);
        x.line(1, 2, 0, 0);
        x.line(1, 2, 0, 0);
        x.line(2, 1, 0, 0);
        Due.tape(x, 1, 2, 3, 4, 5);
        for (int message = 0; message < 6; message++) {
            x.message(2, 1, 0);
        }
        for (int event = 0; event < 7; event++) {
            x.event(0, event);
        }
        for (int fact = 0; fact < 8; fact++) {
            x.fact(1, 0, 1);
        }
        x.rain(9);
        int[] want = {3, 2, 1, 4, 5, 6, 7, 8, 11, 9};
        for (int what = 0; what < 10; what++) {
            due.is("count(" + what + ")", x.count(what), want[what]);
        }
        due.is("count(-1)", x.count(-1), -1);
        due.is("count(10)", x.count(10), -1);
        due.is("count(MIN)", x.count(Integer.MIN_VALUE), -1);
    }
}
