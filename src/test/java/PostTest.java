/** Promises 21 to 24: MESSAGES, ROUTES, what is sent when, and TAPS. */
public final class PostTest {
    private static final Due due = new Due("PostTest");

    public static void main(String[] args) {
        message();
        route();
        lonely();
        whoIsNext();
        linesAreFreeFirst();
        severalLines();
        laterLines();
        tap();
        longest();
        due.end();
    }

    private static void message() {
        KeyFists x = new KeyFists();
        due.is("message without LINES", x.message(1, 1, 0), -1);
        x.line(0, 1, 0, 0);
        x.line(4, 5, 0, 0);
        int[][] wrong = {{0, 1, 0}, {11, 1, 0}, {6, 1, 0}, {61, 1, 0}, {7, 1, 0}, {-1, 1, 0}, {101, 1, 0}, {10, 1, 0},
            {45, 0, 0}, {45, 61, 0}, {45, 99, 0}, {45, 100, 0}, {45, 20061, 0}, {45, 20101, 0}, {45, -1, 0}, {45, -99, 0},
            {45, -100, 0}, {45, 1, -1}, {45, 1, 4}, {Integer.MIN_VALUE, 1, 0}, {45, Integer.MIN_VALUE, 0},
            {Integer.MAX_VALUE, 1, 0}, {45, Integer.MAX_VALUE, 0}, {45, 1, Integer.MAX_VALUE}, {5, 1, 0}, {41, 1, 0}};
        for (int[] of : wrong) {
            due.is("message(" + of[0] + ", " + of[1] + ", " + of[2] + ")", x.message(of[0], of[1], of[2]), -1);
        }
        due.is("messages", x.count(5), 0);
        due.is("message with the least", x.message(1, 1, 0), 0);
        due.is("message with the greatest", x.message(45, 20060, 3), 1);
        for (int message = 2; message < 20; message++) {
            due.is("message", x.message(1, 1, 0), message);
        }
        due.is("the 21st message", x.message(1, 1, 0), -1);
        due.is("messages", x.count(5), 20);
        due.is("the greatest arrives", x.sent(1, 0, 0), 260);
    }

    private static void route(KeyFists x, int from, int to, int... want) {
        String told = "route(" + from + ", " + to + ", ";
        due.is(told + "-1)", x.route(from, to, -1), want.length);
        for (int k = 0; k < want.length; k++) {
            due.is(told + k + ")", x.route(from, to, k), want[k]);
        }
        due.is(told + want.length + ")", x.route(from, to, want.length), -1);
        due.is(told + "-2)", x.route(from, to, -2), -1);
    }

    private static void route() {
        KeyFists x = new KeyFists();
        x.line(0, 1, 0, 0);
        x.line(3, 2, 0, 0);
        x.line(1, 2, 0, 0);
        x.line(0, 3, 0, 0);
        x.line(1, 2, 0, 0);
        route(x, 0, 1, 0);
        route(x, 0, 2, 0, 2);
        route(x, 0, 3, 3);
        route(x, 3, 2, 1);
        int[][] none = {{2, 0}, {1, 0}, {0, 4}, {0, 0}, {3, 3}, {-1, 0}, {0, -1}, {6, 0}, {0, 6}, {5, 4}};
        for (int[] of : none) {
            due.is("route(" + of[0] + ", " + of[1] + ", -1)", x.route(of[0], of[1], -1), -1);
            due.is("route(" + of[0] + ", " + of[1] + ", 0)", x.route(of[0], of[1], 0), -1);
        }
        x.line(2, 4, 0, 0);
        route(x, 0, 4, 0, 2, 5);
        x.line(3, 4, 0, 0);
        route(x, 0, 4, 3, 6);
        route(x, 0, 2, 0, 2);
        x.line(0, 2, 0, 0);
        route(x, 0, 2, 7);
        route(x, 0, 4, 3, 6);

        KeyFists y = new KeyFists();
        for (int station = 5; station > 0; station--) {
            y.line(station - 1, station, 0, 0);
        }
        route(y, 0, 5, 4, 3, 2, 1, 0);
        y.line(5, 0, 0, 0);
        route(y, 1, 0, 3, 2, 1, 0, 5);
        // the least first LINE comes ahead of a lesser second one
        KeyFists z = new KeyFists();
        z.line(2, 3, 0, 0);
        z.line(0, 1, 0, 0);
        z.line(0, 2, 0, 0);
        z.line(1, 3, 0, 0);
        route(z, 0, 3, 1, 3);
    }

    private static void sent(KeyFists x, int message, int arrives, int waits) {
        due.is("sent(" + message + ", 0, 0)", x.sent(message, 0, 0), arrives);
        due.is("sent(" + message + ", 1, 0)", x.sent(message, 1, 0), waits);
    }

    private static void where(KeyFists x, int message, int... minutesAndPlaces) {
        for (int i = 0; i < minutesAndPlaces.length; i += 2) {
            due.is("sent(" + message + ", 2, " + minutesAndPlaces[i] + ")", x.sent(message, 2, minutesAndPlaces[i]),
                minutesAndPlaces[i + 1]);
        }
    }

    private static void lonely() {
        KeyFists x = new KeyFists();
        x.line(1, 2, 0, 0);
        x.line(2, 3, 0, 0);
        x.message(13, 705, 0);
        x.message(13, 1, 0);
        sent(x, 0, 17, 0);
        where(x, 0, 0, -1, 6, -1, 7, 10, 11, 10, 12, 11, 16, 11, 17, 3, 5000, 3, 5001, -1, -1, -1,
            Integer.MIN_VALUE, -1, Integer.MAX_VALUE, -1);
        where(x, 1, 0, 10, 1, 11, 2, 3, 3, 3);
        due.is("sent(0, 0, -1)", x.sent(0, 0, -1), 17);
        due.is("sent(0, 1, 5001)", x.sent(0, 1, 5001), 0);
        due.is("sent(0, 3, 0)", x.sent(0, 3, 0), -1);
        due.is("sent(0, -1, 0)", x.sent(0, -1, 0), -1);
        due.is("sent(2, 0, 0)", x.sent(2, 0, 0), -1);
        due.is("sent(-1, 0, 0)", x.sent(-1, 0, 0), -1);
        due.is("sent(2, 2, 7)", x.sent(2, 2, 7), -1);
        due.is("sent(MAX, 1, 7)", x.sent(Integer.MAX_VALUE, 1, 7), -1);
    }

    private static void whoIsNext() {
        KeyFists x = new KeyFists();
        x.line(0, 1, 0, 0);
        x.line(1, 2, 0, 0);
        x.message(1, 110, 0);
        x.message(1, 210, 0);
        x.message(1, 110, 0);
        x.message(1, 510, 2);
        x.message(1, 310, 2);
        x.message(1, 1110, 3);
        sent(x, 0, 11, 0);
        sent(x, 5, 21, 0);
        sent(x, 4, 31, 18);
        sent(x, 3, 41, 26);
        sent(x, 2, 51, 40);
        sent(x, 1, 61, 49);
        where(x, 1, 1, -1, 2, 0, 50, 0, 51, 10, 60, 10, 61, 1);
    }

    private static void linesAreFreeFirst() {
        KeyFists x = new KeyFists();
        x.line(0, 1, 0, 0);
        x.line(1, 2, 0, 0);
        x.message(2, 10, 0);
        x.message(12, 1010, 0);
        x.message(12, 930, 1);
        x.message(2, 5, 3);
        // what comes to a STATION in a MINUTE waits there as long as what comes up in it
        sent(x, 3, 10, 0);
        sent(x, 2, 40, 1);
        sent(x, 0, 60, 40);
        sent(x, 1, 50, 30);
        KeyFists y = new KeyFists();
        y.line(0, 1, 0, 0);
        y.line(1, 2, 0, 0);
        y.message(12, 510, 0);
        y.message(12, 20, 0);
        y.message(2, 5, 0);
        sent(y, 1, 20, 0);
        sent(y, 0, 30, 15);
        sent(y, 2, 35, 25);
        where(y, 2, 4, 10, 5, 1, 29, 1, 30, 11, 35, 2);
        where(y, 0, 4, -1, 5, 1, 20, 11, 30, 2);
    }

    private static void severalLines() {
        KeyFists x = new KeyFists();
        x.line(0, 1, 0, 0);
        x.line(0, 2, 0, 0);
        x.line(0, 1, 0, 0);
        x.message(1, 10, 0);
        x.message(1, 10, 0);
        x.message(2, 10, 0);
        sent(x, 0, 10, 0);
        sent(x, 1, 20, 10);
        sent(x, 2, 10, 0);
        due.is("tap of a LINE that no ROUTE has", x.tap(2, -1), 0);
        due.is("it has none", x.tap(2, 0), -1);
        due.is("tap(0, -1)", x.tap(0, -1), 2);
        due.is("tap(1, 0)", x.tap(1, 0), 2);
    }

    private static void laterLines() {
        KeyFists x = new KeyFists();
        x.line(0, 1, 0, 0);
        x.line(1, 2, 0, 0);
        x.message(2, 10, 0);
        sent(x, 0, 20, 0);
        x.line(0, 2, 0, 0);
        // a ROUTE has the fewest LINES of those that there are
        sent(x, 0, 10, 0);
        where(x, 0, 0, 12, 9, 12, 10, 2);
        due.is("tap(0, -1)", x.tap(0, -1), 0);
        due.is("tap(2, 0)", x.tap(2, 0), 0);
        x.message(2, 5, 1);
        sent(x, 0, 15, 5);
        sent(x, 1, 5, 0);
    }

    private static void tap() {
        KeyFists x = new KeyFists();
        due.is("tap without LINES", x.tap(0, -1), -1);
        x.line(0, 1, 0, 0);
        due.is("tap without MESSAGES", x.tap(0, -1), 0);
        x.line(1, 0, 0, 0);
        x.message(1, 2010, 0);
        x.message(1, 1010, 0);
        x.message(1, 1010, 3);
        x.message(10, 1, 3);
        x.message(1, 1, 0);
        int[] want = {4, 2, 1, 0};
        due.is("tap(0, -1)", x.tap(0, -1), 4);
        for (int k = 0; k < 4; k++) {
            due.is("tap(0, " + k + ")", x.tap(0, k), want[k]);
        }
        due.is("tap(0, 4)", x.tap(0, 4), -1);
        due.is("tap(0, -2)", x.tap(0, -2), -1);
        due.is("tap(1, -1)", x.tap(1, -1), 1);
        due.is("tap(1, 0)", x.tap(1, 0), 3);
        due.is("tap(2, -1)", x.tap(2, -1), -1);
        due.is("tap(2, 0)", x.tap(2, 0), -1);
        due.is("tap(-1, -1)", x.tap(-1, -1), -1);
    }

    private static void longest() {
        KeyFists x = new KeyFists();
        for (int station = 0; station < 5; station++) {
            x.line(station, station + 1, 0, 0);
        }
        for (int message = 0; message < 20; message++) {
            x.message(5, 20060, message % 4);
        }
        for (int message = 0; message < 20; message++) {
            int ahead = (3 - message % 4) * 5 + message / 4;
            sent(x, message, 200 + 60 * (ahead + 5), 60 * ahead);
            due.is("tap(4, " + ahead + ")", x.tap(4, ahead), message);
        }
        due.is("tap(4, 20)", x.tap(4, 20), -1);
        due.is("tap(4, -1)", x.tap(4, -1), 20);
    }
}
