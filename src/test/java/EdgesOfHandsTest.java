/** Promises 8 to 14 and 31 at their edges: a case of its own for each sentence that names one. */
public final class EdgesOfHandsTest {
    private static final Due due = new Due("EdgesOfHandsTest");
    private static final int MIN = Integer.MIN_VALUE;
    private static final int MAX = Integer.MAX_VALUE;
    private static final int NONE = KeyFists.NONE;

    public static void main(String[] args) {
        handsLeastAndGreatest();
        handsThatCantBe();
        eightHandsAndOneMore();
        linesLeastAndGreatest();
        linesThatCantBe();
        eightLinesAndOneMore();
        rainThatCanBe();
        rainThatCantBe();
        biteOfLines();
        lengthsLeastAndGreatest();
        aTapeOf120LengthsAndOneMore();
        cutToTheFirstLengthsAlone();
        cutToMoreThanThereAre();
        lengthsOfTheTape();
        tapesThatAreWhole();
        countsAtFirstAndAtMost();
        countsOfOthers();
        due.end();
    }

    private static int handWith(KeyFists x, int kind, int span, int others) {
        return x.hand(kind == 0 ? span : others, kind == 1 ? span : others, kind == 2 ? span : others,
            kind == 3 ? span : others, kind == 4 ? span : others);
    }

    // 8: hand

    private static void handsLeastAndGreatest() {
        int[][] spans = {{1, 1}, {1, 255}, {255, 255}, {254, 255}, {1, 2}, {7, 9}, {9, 9}, {100, 200}};
        for (int kind = 0; kind < 5; kind++) {
            KeyFists x = new KeyFists();
            for (int hand = 0; hand < 8; hand++) {
                int span = spans[hand][0] * 1000 + spans[hand][1];
                due.is("hand with " + span + " as KIND " + kind, handWith(x, kind, span, 40040), hand);
            }
            for (int[] span : spans) {
                takesLengths(kind, span[0], span[1]);
            }
        }
    }

    /** By a HAND whose other KINDS take 20 alone a length of a KIND lies between these two or is one of them. */
    private static void takesLengths(int kind, int least, int greatest) {
        String[] codes = {"letter e 1;", "letter t 2;", "letter i 11;", "letter e 1;", "letter e 1;"};
        KeyFists x = new KeyFists();
        Due.code(x, codes[kind]);
        x.line(0, 1, 0, 0);
        handWith(x, kind, least * 1000 + greatest, 20020);
        for (int length : new int[] {1, least - 1, least, (least + greatest) / 2, greatest, greatest + 1, 999}) {
            // 20 is what the other KINDS take
            if (length < 1 || length == 20) {
                continue;
            }
            if (kind < 2) {
                Due.tape(x, length);
            } else {
                Due.tape(x, 20, length, 20);
            }
            boolean lies = length >= least && length <= greatest;
            due.is("KIND " + kind + " of " + least + " .. " + greatest + " at " + length, x.readings(0, 0), lies ? 1 : 0);
        }
    }

    private static void handsThatCantBe() {
        int[] wrong = {MIN, -255255, -1001, -1000, -1, 0, 1, 255, 256, 999, 1000, 1256, 1999, 2001, 20019, 20000, 254253,
            255254, 255256, 256255, 256256, 256999, 999999, 1000000, 1001001, 1256000, MAX};
        for (int kind = 0; kind < 5; kind++) {
            for (int span : wrong) {
                KeyFists x = new KeyFists();
                due.is("hand with " + span + " as KIND " + kind, handWith(x, kind, span, 10020), NONE);
                due.is("HANDS then", x.count(2), 0);
                due.is("the next HAND", handWith(x, kind, 10020, 10020), 0);
            }
        }
    }

    private static void eightHandsAndOneMore() {
        KeyFists x = new KeyFists();
        for (int hand = 0; hand < 8; hand++) {
            due.is("a HAND that can't be", x.hand(10020, 10020, 10009, 10020, 10020), NONE);
            due.is("HANDS", x.count(2), hand);
            due.is("hand", x.hand(10020, 10020, 10020, 10020, 10020), hand);
            due.is("HANDS", x.count(2), hand + 1);
        }
        Due.code(x, "letter e 1;");
        x.line(0, 1, 0, 0);
        x.length(50);
        due.is("the ninth HAND", x.hand(50050, 50050, 50050, 50050, 50050), NONE);
        due.is("HANDS", x.count(2), 8);
        due.is("it reads nothing", x.readings(8, 0), NONE);
        for (int hand = 0; hand < 8; hand++) {
            due.is("it is at no other's place", x.readings(hand, 0), 0);
        }
    }

    // 9: line

    private static void linesLeastAndGreatest() {
        KeyFists x = new KeyFists();
        due.is("line from the least", x.line(0, 1, 0, 0), 0);
        due.is("line from the greatest", x.line(5, 4, 99, 20), 1);
        due.is("line to the least", x.line(1, 0, 0, 20), 2);
        due.is("line to the greatest", x.line(4, 5, 99, 0), 3);
        int[] dry = {0, 99, 0, 99};
        int[] wet = {0, 99 + 180, 180, 99};
        for (int line = 0; line < 4; line++) {
            due.is("bite dry", x.bite(line), dry[line]);
        }
        x.rain(9);
        for (int line = 0; line < 4; line++) {
            due.is("bite in RAIN", x.bite(line), wet[line]);
        }
        due.is("route(0, 1, 0)", x.route(0, 1, 0), 0);
        due.is("route(5, 4, 0)", x.route(5, 4, 0), 1);
        due.is("route(1, 0, 0)", x.route(1, 0, 0), 2);
        due.is("route(4, 5, 0)", x.route(4, 5, 0), 3);
    }

    private static void linesThatCantBe() {
        int[] stations = {MIN, -6, -1, 6, 7, 10, MAX};
        int[] bites = {MIN, -99, -1, 100, 101, MAX};
        int[] leaks = {MIN, -20, -1, 21, 22, 99, MAX};
        KeyFists x = new KeyFists();
        for (int station : stations) {
            due.is("line from " + station, x.line(station, 1, 0, 0), NONE);
            due.is("line to " + station, x.line(1, station, 0, 0), NONE);
            due.is("line from and to " + station, x.line(station, station, 0, 0), NONE);
        }
        for (int station = 0; station < 6; station++) {
            due.is("line from " + station + " to it", x.line(station, station, 0, 0), NONE);
        }
        for (int bite : bites) {
            due.is("line that bites " + bite, x.line(0, 1, bite, 0), NONE);
        }
        for (int leak : leaks) {
            due.is("line that leaks " + leak, x.line(0, 1, 0, leak), NONE);
        }
        due.is("LINES then", x.count(3), 0);
        due.is("bite(0)", x.bite(0), NONE);
        due.is("route(0, 1, -1)", x.route(0, 1, NONE), NONE);
        due.is("the next LINE", x.line(0, 1, 0, 0), 0);
    }

    private static void eightLinesAndOneMore() {
        KeyFists x = new KeyFists();
        for (int line = 0; line < 8; line++) {
            due.is("a LINE that can't be", x.line(2, 2, 0, 0), NONE);
            due.is("line alike", x.line(0, 1, 10 + line, 0), line);
            due.is("LINES", x.count(3), line + 1);
        }
        due.is("the ninth LINE", x.line(2, 3, 50, 1), NONE);
        due.is("LINES", x.count(3), 8);
        due.is("bite(8)", x.bite(8), NONE);
        due.is("bite(7)", x.bite(7), 17);
        due.is("bite(0)", x.bite(0), 10);
        due.is("no ROUTE by it", x.route(2, 3, NONE), NONE);
        due.is("tap(8, -1)", x.tap(8, NONE), NONE);
        due.is("tap(7, -1)", x.tap(7, NONE), 0);
    }

    // 10, 11: rain and bite

    private static void rainThatCanBe() {
        KeyFists x = new KeyFists();
        x.line(0, 1, 7, 3);
        due.is("RAIN at first", x.count(9), 0);
        due.is("bite at first", x.bite(0), 7);
        for (int rain = 9; rain >= 0; rain--) {
            due.is("rain(" + rain + ")", x.rain(rain), true);
            due.is("RAIN", x.count(9), rain);
            due.is("bite", x.bite(0), 7 + 3 * rain);
            due.is("rain(" + rain + ") again", x.rain(rain), true);
            due.is("bite", x.bite(0), 7 + 3 * rain);
        }
        x.rain(4);
        x.line(1, 2, 0, 5);
        due.is("bite of a LINE that comes in RAIN", x.bite(1), 20);
    }

    private static void rainThatCantBe() {
        for (int before : new int[] {0, 5, 9}) {
            KeyFists x = new KeyFists();
            x.line(0, 1, 7, 3);
            x.rain(before);
            for (int rain : new int[] {MIN, -9, -2, -1, 10, 11, 99, MAX}) {
                due.is("rain(" + rain + ")", x.rain(rain), false);
                due.is("RAIN stays", x.count(9), before);
                due.is("bite stays", x.bite(0), 7 + 3 * before);
            }
        }
    }

    private static void biteOfLines() {
        KeyFists x = new KeyFists();
        for (int lines = 0; lines <= 8; lines++) {
            for (int line : new int[] {MIN, -2, -1, lines, lines + 1, 8, 9, MAX}) {
                if (line < 0 || line >= lines) {
                    due.is("bite(" + line + ") of " + lines, x.bite(line), NONE);
                }
            }
            for (int line = 0; line < lines; line++) {
                due.is("bite(" + line + ") of " + lines, x.bite(line), line);
            }
            x.line(0, 1, lines, 0);
        }
    }

    // 12 to 14: the TAPE

    private static void lengthsLeastAndGreatest() {
        KeyFists x = new KeyFists();
        for (int length : new int[] {MIN, -999, -1, 0, 1000, 1001, 1999, MAX}) {
            due.is("length(" + length + ")", x.length(length), NONE);
            due.is("lengths then", x.count(4), 0);
            due.is("tape(0)", x.tape(0), NONE);
        }
        due.is("length(1)", x.length(1), 1);
        due.is("length(999)", x.length(999), 2);
        due.is("length(0) behind them", x.length(0), NONE);
        due.is("length(1000) behind them", x.length(1000), NONE);
        due.is("lengths", x.count(4), 2);
        due.is("tape(0)", x.tape(0), 1);
        due.is("tape(1)", x.tape(1), 999);
        due.is("length(2)", x.length(2), 3);
        due.is("length(998)", x.length(998), 4);
        due.is("tape(3)", x.tape(3), 998);
    }

    private static void aTapeOf120LengthsAndOneMore() {
        KeyFists x = new KeyFists();
        for (int length = 1; length <= 120; length++) {
            due.is("length " + length, x.length(length), length);
        }
        due.is("the 121st length", x.length(5), NONE);
        due.is("the 121st length", x.length(999), NONE);
        due.is("a length that can't be either", x.length(1000), NONE);
        due.is("lengths", x.count(4), 120);
        for (int k = 0; k < 120; k++) {
            due.is("tape(" + k + ")", x.tape(k), k + 1);
        }
        due.is("tape(120)", x.tape(120), NONE);
        due.is("cut(119)", x.cut(119), true);
        due.is("a length in its place", x.length(500), 120);
        due.is("tape(119)", x.tape(119), 500);
        due.is("tape(118)", x.tape(118), 119);
        due.is("the 121st length", x.length(5), NONE);
    }

    private static void cutToTheFirstLengthsAlone() {
        KeyFists x = new KeyFists();
        Due.tape(x, 10, 20, 30, 40);
        due.is("cut(4)", x.cut(4), true);
        due.is("lengths", Due.tape(x), "10 20 30 40");
        due.is("cut(3)", x.cut(3), true);
        due.is("lengths", Due.tape(x), "10 20 30");
        due.is("what is gone doesn't come back", x.cut(4), false);
        due.is("cut(1)", x.cut(1), true);
        due.is("lengths", Due.tape(x), "10");
        due.is("length", x.length(7), 2);
        due.is("lengths", Due.tape(x), "10 7");
        due.is("cut(0)", x.cut(0), true);
        due.is("lengths", Due.tape(x), "");
        due.is("cut(0) of nothing", x.cut(0), true);
        due.is("length", x.length(8), 1);
        due.is("tape(0)", x.tape(0), 8);
    }

    private static void cutToMoreThanThereAre() {
        for (int size : new int[] {0, 1, 2, 119, 120}) {
            KeyFists x = new KeyFists();
            for (int length = 1; length <= size; length++) {
                x.length(length);
            }
            for (int n : new int[] {MIN, -120, -2, -1, size + 1, size + 2, 121, MAX}) {
                due.is("cut(" + n + ") of " + size, x.cut(n), false);
                due.is("lengths then", x.count(4), size);
                due.is("the last one", x.tape(size - 1), size == 0 ? NONE : size);
            }
            due.is("cut(" + size + ") of as many", x.cut(size), true);
            due.is("lengths then", x.count(4), size);
        }
    }

    private static void lengthsOfTheTape() {
        KeyFists x = new KeyFists();
        for (int size = 0; size <= 6; size++) {
            for (int k : new int[] {MIN, -2, -1, size, size + 1, 119, 120, MAX}) {
                due.is("tape(" + k + ") of " + size, x.tape(k), NONE);
            }
            for (int k = 0; k < size; k++) {
                due.is("tape(" + k + ") of " + size, x.tape(k), 100 + k);
            }
            x.length(100 + size);
        }
    }

    private static void tapesThatAreWhole() {
        KeyFists x = new KeyFists();
        Due.code(x, "letter e 1;");
        x.hand(20020, 40040, 40040, 20020, 40040);
        x.line(0, 1, 0, 0);
        Due.text(x, "e");
        for (int size = 0; size <= 120; size++) {
            int want = size % 2 == 1 ? 1 : NONE;
            due.is("readings of " + size + " lengths", x.readings(0, 0), want);
            due.is("nearest of " + size + " lengths", x.nearest(0, 0, NONE), want == NONE ? NONE : size / 2 + 1);
            due.is("suspects with " + size + " lengths", x.suspects(NONE), want == NONE ? NONE : size == 1 ? 1 : 0);
            x.length(20);
        }
        due.is("lengths", x.count(4), 120);
    }

    // 31: count

    private static void countsAtFirstAndAtMost() {
        KeyFists x = new KeyFists();
        for (int what = 0; what < 10; what++) {
            due.is("count(" + what + ") at first", x.count(what), 0);
        }
        Due.code(x, Due.words(20));
        for (int times = 0; times < 25; times++) {
            x.feed(0, 0, 0, 0, 0);
        }
        for (int number = 0; number < 8; number++) {
            x.hand(1001, 1001, 1001, 1001, 1001);
            x.line(0, 1, 0, 0);
        }
        for (int number = 0; number < 120; number++) {
            x.length(1);
        }
        for (int number = 0; number < 20; number++) {
            x.message(1, 1, 0);
        }
        for (int number = 0; number < 12; number++) {
            x.event(0, 0);
        }
        for (int number = 0; number < 12; number++) {
            x.fact(0, 1, 0);
        }
        x.rain(9);
        int[] most = {3, 20, 8, 8, 120, 20, 12, 12, 500, 9};
        for (int what = 0; what < 10; what++) {
            due.is("count(" + what + ") at most", x.count(what), most[what]);
        }
        KeyFists y = new KeyFists();
        Due.code(y, Due.morse());
        due.is("count(0) at most", y.count(0), 26);
    }

    private static void countsOfOthers() {
        KeyFists x = new KeyFists();
        x.rain(9);
        for (int what : new int[] {MIN, -2, -1, 10, 11, 100, MAX}) {
            due.is("count(" + what + ")", x.count(what), NONE);
        }
    }
}
