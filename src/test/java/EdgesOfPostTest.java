/** Promises 21 to 24 at their edges: a case of its own for each sentence that names one. */
public final class EdgesOfPostTest {
    private static final Due due = new Due("EdgesOfPostTest");
    private static final int MIN = Integer.MIN_VALUE;
    private static final int MAX = Integer.MAX_VALUE;
    private static final int NONE = KeyFists.NONE;

    public static void main(String[] args) {
        messagesLeastAndGreatest();
        messagesThatCantBe();
        messagesWithoutARoute();
        twentyMessagesAndOneMore();
        routesOfOneToFiveLines();
        routesNoneSuch();
        routesOfTheFewestLines();
        routesByTheFirstLineThenTheSecond();
        comesToTheOtherStation();
        endedLinesAreFree();
        thoseThatComeUpComeSecond();
        aLineInUseIsNotFree();
        theGreatestPriority();
        whichWaitsThereLongest();
        ofLikeOnesTheLeast();
        freeLinesSendInTheSameMinute();
        arrivesWhenItHasComeToItsEnd();
        waitsInAll();
        whereItIsAtTheEndOfTheMinute();
        minutesThatAreAskedFor();
        sentOfOthers();
        sentNoneSuch();
        tapOfNothing();
        tapByTheMinutesOfBeginning();
        tapNoneSuch();
        theLongestPost();
        aHundredMinutesOfBeginning();
        due.end();
    }

    private static KeyFists ring() {
        KeyFists x = new KeyFists();
        for (int station = 0; station < 6; station++) {
            x.line(station, (station + 1) % 6, 0, 0);
        }
        return x;
    }

    private static KeyFists oneLine() {
        KeyFists x = new KeyFists();
        x.line(0, 1, 0, 0);
        return x;
    }

    private static KeyFists twoLines() {
        KeyFists x = new KeyFists();
        x.line(0, 1, 0, 0);
        x.line(1, 2, 0, 0);
        return x;
    }

    private static void sent(KeyFists x, int message, int arrives, int waits) {
        due.is("sent(" + message + ", 0, 0)", x.sent(message, 0, 0), arrives);
        due.is("sent(" + message + ", 1, 0)", x.sent(message, 1, 0), waits);
    }

    private static void where(KeyFists x, int message, int... minutesAndPlaces) {
        for (int i = 0; i < minutesAndPlaces.length; i += 2) {
            due.is("sent(" + message + ", 2, " + minutesAndPlaces[i] + ")", x.sent(message, 2, minutesAndPlaces[i]),
                minutesAndPlaces[i + 1]);
        }
    }

    private static void tap(KeyFists x, int line, int... want) {
        due.is("tap(" + line + ", -1)", x.tap(line, NONE), want.length);
        for (int k = 0; k < want.length; k++) {
            due.is("tap(" + line + ", " + k + ")", x.tap(line, k), want[k]);
        }
        due.is("tap(" + line + ", " + want.length + ")", x.tap(line, want.length), NONE);
    }

    // 21: message

    private static void messagesLeastAndGreatest() {
        KeyFists x = ring();
        due.is("the least of all", x.message(1, 1, 0), 0);
        due.is("the greatest MINUTE", x.message(12, 20001, 0), 1);
        due.is("the most words", x.message(23, 60, 0), 2);
        due.is("the greatest PRIORITY", x.message(34, 1, 3), 3);
        due.is("the greatest STATIONS", x.message(54, 1, 0), 4);
        due.is("to the greatest STATION", x.message(45, 20060, 3), 5);
        due.is("from the greatest STATION", x.message(50, 20060, 0), 6);
        sent(x, 0, 1, 0);
        sent(x, 1, 201, 0);
        sent(x, 2, 60, 0);
        where(x, 1, 199, -1, 200, 11, 201, 2);
        where(x, 2, 0, 12, 59, 12, 60, 3);
        for (int station = 0; station < 6; station++) {
            int next = (station + 1) % 6;
            KeyFists y = ring();
            due.is("message from " + station + " to " + next, y.message(station * 10 + next, 1, 0), 0);
            where(y, 0, 0, 10 + station, 1, next);
        }
    }

    private static void messagesThatCantBe() {
        KeyFists x = ring();
        for (int stations : new int[] {MIN, -11, -10, -1, 0, 6, 7, 8, 9, 11, 16, 22, 33, 44, 55, 56, 59, 60, 61, 65, 66, 70,
            101, 112, 1001, MAX}) {
            due.is("message(" + stations + ", 1, 0)", x.message(stations, 1, 0), NONE);
        }
        for (int minutes : new int[] {MIN, -20001, -101, -100, -99, -1, 0, 61, 62, 99, 100, 161, 199, 20000, 20061, 20099,
            20100, 20101, 20160, 30001, MAX}) {
            due.is("message(1, " + minutes + ", 0)", x.message(1, minutes, 0), NONE);
        }
        for (int priority : new int[] {MIN, -3, -1, 4, 5, 10, MAX}) {
            due.is("message(1, 1, " + priority + ")", x.message(1, 1, priority), NONE);
        }
        due.is("MESSAGES then", x.count(5), 0);
        due.is("tap(0, -1)", x.tap(0, NONE), 0);
        due.is("sent(0, 0, 0)", x.sent(0, 0, 0), NONE);
        due.is("the next MESSAGE", x.message(1, 1, 0), 0);
        sent(x, 0, 1, 0);
    }

    private static void messagesWithoutARoute() {
        KeyFists x = new KeyFists();
        due.is("message without LINES", x.message(1, 1, 0), NONE);
        x.line(0, 1, 0, 0);
        x.line(2, 3, 0, 0);
        due.is("message against the LINE", x.message(10, 1, 0), NONE);
        due.is("message beyond the LINES", x.message(3, 1, 0), NONE);
        due.is("message to where no LINE goes", x.message(4, 1, 0), NONE);
        due.is("message from where no LINE comes", x.message(41, 1, 0), NONE);
        due.is("MESSAGES then", x.count(5), 0);
        due.is("message along the LINE", x.message(1, 1, 0), 0);
        x.line(1, 2, 0, 0);
        due.is("message where there is a ROUTE now", x.message(3, 101, 0), 1);
        sent(x, 1, 4, 0);
        due.is("MESSAGES then", x.count(5), 2);
    }

    private static void twentyMessagesAndOneMore() {
        KeyFists x = oneLine();
        for (int message = 0; message < 20; message++) {
            due.is("a MESSAGE that can't be", x.message(1, 100, 0), NONE);
            due.is("message", x.message(1, 1, 0), message);
            due.is("MESSAGES", x.count(5), message + 1);
        }
        due.is("the 21st MESSAGE", x.message(1, 1, 3), NONE);
        due.is("MESSAGES", x.count(5), 20);
        due.is("sent(20, 0, 0)", x.sent(20, 0, 0), NONE);
        for (int message = 0; message < 20; message++) {
            sent(x, message, message + 1, message);
            due.is("tap(0, " + message + ")", x.tap(0, message), message);
        }
        due.is("tap(0, 20)", x.tap(0, 20), NONE);
        due.is("tap(0, -1)", x.tap(0, NONE), 20);
    }

    // 22: route

    private static void route(KeyFists x, int from, int to, int... want) {
        String told = "route(" + from + ", " + to + ", ";
        due.is(told + "-1)", x.route(from, to, NONE), want.length == 0 ? NONE : want.length);
        for (int k = 0; k < want.length; k++) {
            due.is(told + k + ")", x.route(from, to, k), want[k]);
        }
        for (int k : new int[] {MIN, -3, -2, want.length, want.length + 1, 5, 6, MAX}) {
            due.is(told + k + ")", x.route(from, to, k), NONE);
        }
    }

    private static void routesOfOneToFiveLines() {
        KeyFists x = ring();
        route(x, 0, 1, 0);
        route(x, 0, 2, 0, 1);
        route(x, 0, 3, 0, 1, 2);
        route(x, 0, 4, 0, 1, 2, 3);
        route(x, 0, 5, 0, 1, 2, 3, 4);
        route(x, 5, 4, 5, 0, 1, 2, 3);
        route(x, 5, 0, 5);
        route(x, 3, 2, 3, 4, 5, 0, 1);
        x.message(5, 1, 0);
        sent(x, 0, 5, 0);
        where(x, 0, 0, 10, 1, 11, 2, 12, 3, 13, 4, 14, 5, 5);
    }

    private static void routesNoneSuch() {
        KeyFists x = new KeyFists();
        route(x, 0, 1);
        x.line(0, 1, 0, 0);
        x.line(1, 2, 0, 0);
        x.line(4, 5, 0, 0);
        int[][] none = {{0, 0}, {1, 1}, {5, 5}, {1, 0}, {2, 0}, {2, 1}, {0, 3}, {3, 0}, {0, 4}, {0, 5}, {4, 0}, {5, 4}, {-1, 1},
            {0, -1}, {6, 0}, {0, 6}, {-1, -1}, {6, 6}, {MIN, 1}, {0, MIN}, {MAX, 1}, {0, MAX}};
        for (int[] of : none) {
            route(x, of[0], of[1]);
        }
        route(x, 0, 2, 0, 1);
        route(x, 4, 5, 2);
    }

    private static void routesOfTheFewestLines() {
        KeyFists x = new KeyFists();
        x.line(0, 1, 0, 0);
        x.line(1, 2, 0, 0);
        x.line(2, 3, 0, 0);
        x.line(3, 4, 0, 0);
        route(x, 0, 4, 0, 1, 2, 3);
        x.line(0, 5, 0, 0);
        x.line(5, 3, 0, 0);
        route(x, 0, 4, 4, 5, 3);
        route(x, 0, 3, 4, 5);
        x.line(5, 4, 0, 0);
        route(x, 0, 4, 4, 6);
        x.line(0, 4, 99, 20);
        route(x, 0, 4, 7);
    }

    private static void routesByTheFirstLineThenTheSecond() {
        KeyFists x = new KeyFists();
        x.line(1, 3, 0, 0);
        x.line(0, 2, 0, 0);
        x.line(2, 3, 0, 0);
        x.line(0, 1, 0, 0);
        x.line(2, 3, 0, 0);
        x.line(0, 2, 0, 0);
        // 1 2, 1 4, 3 0, 5 2, 5 4
        route(x, 0, 3, 1, 2);
        x.line(3, 4, 0, 0);
        x.line(2, 4, 0, 0);
        route(x, 0, 4, 1, 7);
        route(x, 1, 4, 0, 6);
        KeyFists y = new KeyFists();
        y.line(0, 1, 0, 0);
        y.line(1, 2, 0, 0);
        y.line(2, 5, 0, 0);
        y.line(1, 3, 0, 0);
        y.line(3, 5, 0, 0);
        y.line(1, 5, 0, 0);
        route(y, 0, 5, 0, 5);
        KeyFists z = new KeyFists();
        z.line(4, 5, 0, 0);
        z.line(3, 5, 0, 0);
        z.line(1, 4, 0, 0);
        z.line(1, 3, 0, 0);
        z.line(0, 1, 0, 0);
        // the second LINE decides ahead of the third
        route(z, 0, 5, 4, 2, 0);
        KeyFists w = new KeyFists();
        w.line(3, 5, 0, 0);
        w.line(4, 5, 0, 0);
        w.line(1, 4, 0, 0);
        w.line(1, 3, 0, 0);
        w.line(0, 1, 0, 0);
        route(w, 0, 5, 4, 2, 1);
    }

    // 4: in each MINUTE

    private static void comesToTheOtherStation() {
        KeyFists x = twoLines();
        x.message(2, 703, 0);
        sent(x, 0, 13, 0);
        where(x, 0, 6, -1, 7, 10, 9, 10, 10, 11, 12, 11, 13, 2);
    }

    private static void endedLinesAreFree() {
        KeyFists x = oneLine();
        x.message(1, 10, 0);
        x.message(1, 1005, 0);
        x.message(1, 1405, 0);
        x.message(1, 1605, 0);
        sent(x, 0, 10, 0);
        // comes up in the MINUTE in which the LINE has ended, one ahead of that, and one behind it
        sent(x, 1, 15, 0);
        sent(x, 2, 20, 1);
        sent(x, 3, 25, 4);
        where(x, 1, 9, -1, 10, 10, 14, 10, 15, 1);
        where(x, 2, 13, -1, 14, 0, 15, 10, 20, 1);
    }

    private static void thoseThatComeUpComeSecond() {
        // one comes to STATION 1 in the MINUTE in which another comes up there: both wait as long
        KeyFists x = twoLines();
        x.message(12, 510, 0);
        x.message(2, 5, 0);
        sent(x, 0, 15, 0);
        sent(x, 1, 20, 10);
        KeyFists y = twoLines();
        y.message(2, 5, 0);
        y.message(12, 510, 0);
        sent(y, 0, 10, 0);
        sent(y, 1, 20, 5);
        // with a greater PRIORITY
        KeyFists z = twoLines();
        z.message(2, 5, 0);
        z.message(12, 510, 1);
        sent(z, 1, 15, 0);
        sent(z, 0, 20, 10);
        // and it comes in time for what begins in that MINUTE
        KeyFists w = twoLines();
        w.message(12, 5, 0);
        w.message(12, 405, 0);
        w.message(2, 5, 1);
        sent(w, 2, 10, 0);
        sent(w, 0, 5, 0);
        sent(w, 1, 15, 6);
    }

    private static void aLineInUseIsNotFree() {
        KeyFists x = oneLine();
        x.message(1, 60, 0);
        x.message(1, 101, 3);
        sent(x, 0, 60, 0);
        sent(x, 1, 61, 59);
        where(x, 1, 0, -1, 1, 0, 59, 0, 60, 10, 61, 1);
    }

    private static void theGreatestPriority() {
        KeyFists x = oneLine();
        for (int priority = 0; priority < 4; priority++) {
            x.message(1, 10, priority);
        }
        for (int priority = 0; priority < 4; priority++) {
            sent(x, priority, 10 * (4 - priority), 10 * (3 - priority));
        }
        tap(x, 0, 3, 2, 1, 0);
        KeyFists y = oneLine();
        y.message(1, 20, 0);
        y.message(1, 120, 1);
        y.message(1, 1920, 2);
        // the PRIORITY comes ahead of how long one waits
        tap(y, 0, 0, 2, 1);
        sent(y, 2, 40, 1);
        sent(y, 1, 60, 39);
        KeyFists z = oneLine();
        z.message(1, 20, 0);
        z.message(1, 120, 1);
        z.message(1, 2120, 2);
        // one MINUTE too late
        tap(z, 0, 0, 1, 2);
        KeyFists w = oneLine();
        w.message(1, 20, 0);
        w.message(1, 120, 1);
        w.message(1, 2020, 2);
        // in that MINUTE itself
        tap(w, 0, 0, 2, 1);
    }

    private static void whichWaitsThereLongest() {
        KeyFists x = oneLine();
        x.message(1, 30, 0);
        x.message(1, 310, 1);
        x.message(1, 210, 1);
        x.message(1, 110, 1);
        tap(x, 0, 0, 3, 2, 1);
        sent(x, 3, 40, 29);
        sent(x, 2, 50, 38);
        sent(x, 1, 60, 47);
        // there, not in all: what came up first and waited at STATION 0 comes later to STATION 1
        KeyFists y = twoLines();
        y.message(1, 20, 3);
        y.message(2, 10, 0);
        y.message(12, 540, 0);
        y.message(12, 2901, 0);
        y.message(12, 3101, 0);
        where(y, 1, 0, 0, 19, 0, 20, 10, 29, 10, 30, 1, 44, 1);
        tap(y, 1, 2, 3, 1, 4);
        sent(y, 2, 45, 0);
        sent(y, 3, 46, 16);
        sent(y, 1, 56, 20 + 16);
        sent(y, 4, 57, 25);
    }

    private static void ofLikeOnesTheLeast() {
        KeyFists x = oneLine();
        for (int message = 0; message < 5; message++) {
            x.message(1, 510 + message, 2);
        }
        tap(x, 0, 0, 1, 2, 3, 4);
        KeyFists y = twoLines();
        y.line(3, 1, 0, 0);
        y.message(12, 9, 0);
        y.message(32, 5, 0);
        y.message(2, 5, 0);
        y.message(12, 501, 0);
        // all at STATION 1 since MINUTE 5
        tap(y, 1, 0, 1, 2, 3);
        sent(y, 1, 14, 4);
        sent(y, 2, 19, 9);
        sent(y, 3, 20, 14);
    }

    private static void freeLinesSendInTheSameMinute() {
        KeyFists x = new KeyFists();
        x.line(1, 2, 0, 0);
        x.line(0, 1, 0, 0);
        x.line(0, 3, 0, 0);
        x.message(1, 10, 0);
        x.message(3, 10, 0);
        x.message(12, 10, 0);
        x.message(2, 5, 0);
        sent(x, 0, 10, 0);
        sent(x, 1, 10, 0);
        sent(x, 2, 10, 0);
        sent(x, 3, 20, 10);
        tap(x, 0, 2, 3);
        tap(x, 1, 0, 3);
        tap(x, 2, 1);
        // one LINE of two alike has them all: a ROUTE has the first
        KeyFists y = new KeyFists();
        y.line(0, 1, 0, 0);
        y.line(0, 1, 0, 0);
        y.message(1, 10, 0);
        y.message(1, 10, 0);
        sent(y, 1, 20, 10);
        tap(y, 0, 0, 1);
        tap(y, 1);
    }

    // 23: sent

    private static void arrivesWhenItHasComeToItsEnd() {
        KeyFists x = oneLine();
        x.message(1, 1, 0);
        x.message(1, 20060, 0);
        sent(x, 0, 1, 0);
        sent(x, 1, 260, 0);
        KeyFists y = ring();
        y.message(5, 20060, 0);
        sent(y, 0, 500, 0);
        y.message(5, 20060, 3);
        sent(y, 1, 500, 0);
        sent(y, 0, 560, 60);
    }

    private static void waitsInAll() {
        KeyFists x = twoLines();
        x.message(1, 10, 3);
        x.message(12, 50, 3);
        x.message(2, 20, 0);
        sent(x, 2, 70, 10 + 20);
        where(x, 2, 0, 0, 9, 0, 10, 10, 29, 10, 30, 1, 49, 1, 50, 11, 69, 11, 70, 2);
        sent(x, 0, 10, 0);
        sent(x, 1, 50, 0);
    }

    private static void whereItIsAtTheEndOfTheMinute() {
        KeyFists x = twoLines();
        x.message(1, 302, 3);
        x.message(2, 201, 0);
        x.message(2, 301, 0);
        where(x, 1, 0, -1, 1, -1, 2, 10, 3, 11, 4, 2, 5, 2);
        where(x, 2, 2, -1, 3, 0, 4, 0, 5, 10, 6, 11, 7, 2);
        where(x, 0, 2, -1, 3, 10, 4, 10, 5, 1, 5000, 1);
        sent(x, 1, 4, 0);
        sent(x, 2, 7, 2);
    }

    private static void minutesThatAreAskedFor() {
        KeyFists x = oneLine();
        x.message(1, 5, 0);
        x.message(1, 20010, 0);
        where(x, 0, 0, 10, 5000, 1, 4999, 1);
        where(x, 1, 0, -1, 199, -1, 200, 10, 209, 10, 210, 1, 5000, 1);
        for (int at : new int[] {MIN, -5000, -2, -1, 5001, 5002, 10000, MAX}) {
            due.is("sent(0, 2, " + at + ")", x.sent(0, 2, at), NONE);
            due.is("sent(1, 2, " + at + ")", x.sent(1, 2, at), NONE);
        }
    }

    private static void sentOfOthers() {
        KeyFists x = oneLine();
        x.message(1, 5, 0);
        for (int what : new int[] {MIN, -2, -1, 3, 4, 10, MAX}) {
            due.is("sent(0, " + what + ", 0)", x.sent(0, what, 0), NONE);
        }
        due.is("sent(0, 0, 0)", x.sent(0, 0, 0), 5);
        due.is("sent(0, 1, 0)", x.sent(0, 1, 0), 0);
        due.is("sent(0, 2, 0)", x.sent(0, 2, 0), 10);
    }

    private static void sentNoneSuch() {
        KeyFists x = oneLine();
        for (int messages = 0; messages < 3; messages++) {
            for (int message : new int[] {MIN, -2, -1, messages, messages + 1, 19, 20, MAX}) {
                for (int what = 0; what < 3; what++) {
                    due.is("sent(" + message + ", " + what + ", 0) of " + messages, x.sent(message, what, 0), NONE);
                }
            }
            x.message(1, 1, 0);
        }
    }

    // 24: tap

    private static void tapOfNothing() {
        KeyFists x = new KeyFists();
        due.is("tap(0, -1) without LINES", x.tap(0, NONE), NONE);
        due.is("tap(0, 0) without LINES", x.tap(0, 0), NONE);
        x.line(0, 1, 0, 0);
        x.line(1, 2, 0, 0);
        tap(x, 0);
        tap(x, 1);
        x.message(1, 1, 0);
        tap(x, 0, 0);
        tap(x, 1);
    }

    private static void tapByTheMinutesOfBeginning() {
        KeyFists x = twoLines();
        x.message(2, 20001, 0);
        x.message(2, 10001, 0);
        x.message(12, 10001, 3);
        x.message(2, 1, 0);
        x.message(1, 20001, 3);
        tap(x, 0, 3, 1, 4, 0);
        tap(x, 1, 3, 2, 1, 0);
        KeyFists y = twoLines();
        // by PRIORITY, not by number or by when they came up
        y.message(1, 10, 1);
        y.message(1, 101, 0);
        y.message(1, 201, 1);
        y.message(1, 301, 3);
        tap(y, 0, 0, 3, 2, 1);
    }

    private static void tapNoneSuch() {
        KeyFists x = twoLines();
        x.message(2, 1, 0);
        x.message(2, 1, 0);
        tap(x, 0, 0, 1);
        for (int k : new int[] {MIN, -3, -2, 2, 3, 19, 20, MAX}) {
            due.is("tap(0, " + k + ")", x.tap(0, k), NONE);
        }
        for (int line : new int[] {MIN, -2, -1, 2, 3, 7, 8, MAX}) {
            due.is("tap(" + line + ", -1)", x.tap(line, NONE), NONE);
            due.is("tap(" + line + ", 0)", x.tap(line, 0), NONE);
        }
    }

    private static void theLongestPost() {
        KeyFists x = ring();
        for (int message = 0; message < 20; message++) {
            x.message(5, 20060, 3);
        }
        sent(x, 0, 500, 0);
        sent(x, 19, 500 + 19 * 60, 19 * 60);
        where(x, 19, 200, 0, 1339, 0, 1340, 10, 1399, 10, 1400, 11, 1639, 14, 1640, 5, 5000, 5);
        due.is("tap(4, 19)", x.tap(4, 19), 19);
        due.is("tap(5, -1)", x.tap(5, NONE), 0);
    }

    /** Twenty MESSAGES through five LINES each: in each of these 100 MINUTES one begins alone. */
    private static void aHundredMinutesOfBeginning() {
        KeyFists x = ring();
        for (int message = 0; message < 20; message++) {
            x.message(5, (190 - 10 * message) * 100 + 2, 0);
        }
        for (int message = 0; message < 20; message++) {
            int minute = 190 - 10 * message;
            sent(x, message, minute + 10, 0);
            where(x, message, minute - 1, NONE, minute, 10, minute + 1, 10, minute + 2, 11, minute + 9, 14, minute + 10, 5);
            due.is("tap(4, " + message + ")", x.tap(4, message), 19 - message);
        }
        // and all through one LINE after the other
        KeyFists y = ring();
        for (int message = 0; message < 20; message++) {
            y.message(5, message + 1, 0);
        }
        int begins = 0;
        for (int message = 0; message < 20; message++) {
            begins += message;
            sent(y, message, begins + 5 * (message + 1), begins);
        }
    }
}
