/** Promises 25 to 30 at their edges: a case of its own for each sentence that names one. */
public final class EdgesOfClocksTest {
    private static final Due due = new Due("EdgesOfClocksTest");
    private static final int MIN = Integer.MIN_VALUE;
    private static final int MAX = Integer.MAX_VALUE;
    private static final int NONE = KeyFists.NONE;
    private static final int VOID = KeyFists.VOID;

    public static void main(String[] args) {
        clocksAtFirst();
        clocksLeastAndGreatest();
        clocksThatCantBe();
        eventsLeastAndGreatest();
        eventsThatCantBe();
        twelveEventsAndOneMore();
        factsLeastAndGreatest();
        factsThatCantBe();
        twelveFactsAndOneMore();
        undoToNone();
        undoTheLastOneAlone();
        numbersThatAgree();
        factsThatContradict();
        clocksThatContradictAFact();
        factsOfEachTwoStations();
        eventsThatNoFactNames();
        throughOtherStations();
        apartLeastAndGreatest();
        apartOfOthers();
        apartNoneSuch();
        firstForSure();
        firstNotForSure();
        firstNoneSuch();
        theFarthestApart();
        due.end();
    }

    private static void apart(KeyFists x, int one, int other, int least, int greatest) {
        due.is("apart(" + one + ", " + other + ", 0)", x.apart(one, other, 0), least);
        due.is("apart(" + one + ", " + other + ", 1)", x.apart(one, other, 1), greatest);
    }

    private static KeyFists events(int... minutes) {
        KeyFists x = new KeyFists();
        for (int station = 0; station < minutes.length; station++) {
            x.event(station, minutes[station]);
        }
        return x;
    }

    // 25: clock

    private static void clocksAtFirst() {
        KeyFists x = events(100, 101, 102, 103, 104, 105);
        for (int one = 0; one < 6; one++) {
            for (int other = 0; other < 6; other++) {
                apart(x, one, other, other - one, other - one);
            }
        }
    }

    private static void clocksLeastAndGreatest() {
        int[][] clocks = {{-60, -60}, {-60, -59}, {-60, 60}, {0, 0}, {-1, 0}, {0, 1}, {59, 60}, {60, 60}, {7, 7}};
        for (int station = 0; station < 6; station++) {
            KeyFists x = events(500, 500, 500, 500, 500, 500);
            int other = (station + 1) % 6;
            for (int[] of : clocks) {
                due.is("clock(" + station + ", " + of[0] + ", " + of[1] + ")", x.clock(station, of[0], of[1]), true);
                apart(x, station, other, of[0], of[1]);
                apart(x, other, station, -of[1], -of[0]);
                apart(x, station, station, 0, 0);
                apart(x, other, (station + 2) % 6, 0, 0);
            }
        }
    }

    private static void clocksThatCantBe() {
        int[][] wrong = {{-61, 0}, {-62, 60}, {0, 61}, {-60, 62}, {1, 0}, {60, 59}, {-59, -60}, {60, -60}, {61, 61}, {-61, -61},
            {MIN, 0}, {0, MAX}, {MIN, MAX}, {MAX, MIN}, {MAX, MAX}, {MIN, MIN}, {5, 4}};
        KeyFists x = events(500, 500);
        x.clock(0, -3, 8);
        for (int[] of : wrong) {
            due.is("clock(0, " + of[0] + ", " + of[1] + ")", x.clock(0, of[0], of[1]), false);
            apart(x, 0, 1, -3, 8);
        }
        for (int station : new int[] {MIN, -2, -1, 6, 7, 12, MAX}) {
            due.is("clock(" + station + ", 0, 0)", x.clock(station, 0, 0), false);
            due.is("clock(" + station + ", -5, 5)", x.clock(station, -5, 5), false);
            apart(x, 0, 1, -3, 8);
        }
    }

    // 26: event

    private static void eventsLeastAndGreatest() {
        KeyFists x = new KeyFists();
        due.is("event of the least", x.event(0, 0), 0);
        due.is("event of the greatest", x.event(5, 999), 1);
        due.is("event(5, 0)", x.event(5, 0), 2);
        due.is("event(0, 999)", x.event(0, 999), 3);
        apart(x, 0, 1, 999, 999);
        apart(x, 1, 0, -999, -999);
        apart(x, 0, 2, 0, 0);
        apart(x, 1, 3, 0, 0);
        due.is("events alike", x.event(0, 0), 4);
        due.is("first(0, 4)", x.first(0, 4), 0);
    }

    private static void eventsThatCantBe() {
        KeyFists x = new KeyFists();
        for (int station : new int[] {MIN, -2, -1, 6, 7, MAX}) {
            due.is("event(" + station + ", 0)", x.event(station, 0), NONE);
        }
        for (int minute : new int[] {MIN, -999, -1, 1000, 1001, MAX}) {
            due.is("event(0, " + minute + ")", x.event(0, minute), NONE);
        }
        due.is("EVENTS then", x.count(6), 0);
        apart(x, 0, 0, VOID, VOID);
        due.is("the next EVENT", x.event(0, 5), 0);
        apart(x, 0, 0, 0, 0);
    }

    private static void twelveEventsAndOneMore() {
        KeyFists x = new KeyFists();
        for (int event = 0; event < 12; event++) {
            due.is("an EVENT that can't be", x.event(event % 6, 1000), NONE);
            due.is("event", x.event(event % 6, 10 * event), event);
            due.is("EVENTS", x.count(6), event + 1);
        }
        due.is("the 13th EVENT", x.event(0, 0), NONE);
        due.is("EVENTS", x.count(6), 12);
        for (int event = 0; event < 12; event++) {
            apart(x, 0, event, 10 * event, 10 * event);
        }
        apart(x, 0, 12, VOID, VOID);
        due.is("fact(12, 0, 0)", x.fact(12, 0, 0), NONE);
        due.is("fact(11, 0, 0)", x.fact(11, 0, 0), 1);
    }

    // 27: fact

    private static void factsLeastAndGreatest() {
        for (int n : new int[] {-99, -98, -1, 0, 1, 98, 99}) {
            KeyFists x = events(500, 500);
            x.clock(0, -60, 60);
            x.clock(1, -60, 60);
            apart(x, 0, 1, -120, 120);
            due.is("fact(1, 0, " + n + ")", x.fact(1, 0, n), 1);
            apart(x, 0, 1, n, 120);
            apart(x, 1, 0, -120, -n);
            due.is("fact(0, 1, " + -n + ")", x.fact(0, 1, -n), 2);
            apart(x, 0, 1, n, n);
            due.is("FACTS", x.count(7), 2);
        }
    }

    private static void factsThatCantBe() {
        KeyFists x = events(500, 500, 500);
        x.clock(0, -60, 60);
        for (int n : new int[] {MIN, -101, -100, 100, 101, MAX}) {
            due.is("fact(0, 1, " + n + ")", x.fact(0, 1, n), NONE);
        }
        for (int event = 0; event < 3; event++) {
            due.is("a FACT of one EVENT", x.fact(event, event, 0), NONE);
            due.is("a FACT of one EVENT", x.fact(event, event, -1), NONE);
            due.is("a FACT of one EVENT", x.fact(event, event, 1), NONE);
        }
        for (int event : new int[] {MIN, -2, -1, 3, 4, 12, MAX}) {
            due.is("fact(" + event + ", 0, 0)", x.fact(event, 0, 0), NONE);
            due.is("fact(0, " + event + ", 0)", x.fact(0, event, 0), NONE);
            due.is("fact(" + event + ", " + event + ", 0)", x.fact(event, event, 0), NONE);
        }
        due.is("FACTS then", x.count(7), 0);
        apart(x, 0, 1, -60, 60);
        due.is("undo then", x.undo(), NONE);
        due.is("the next FACT", x.fact(0, 1, 0), 1);
    }

    private static void twelveFactsAndOneMore() {
        KeyFists x = events(500, 500);
        x.clock(0, -60, 60);
        for (int fact = 1; fact <= 12; fact++) {
            due.is("a FACT that can't be", x.fact(1, 1, 0), NONE);
            due.is("fact", x.fact(1, 0, fact), fact);
            due.is("FACTS", x.count(7), fact);
            apart(x, 0, 1, fact, 60);
        }
        due.is("the 13th FACT", x.fact(1, 0, 50), NONE);
        due.is("the 13th FACT", x.fact(0, 1, -20), NONE);
        due.is("FACTS", x.count(7), 12);
        apart(x, 0, 1, 12, 60);
        due.is("undo", x.undo(), 11);
        apart(x, 0, 1, 11, 60);
        due.is("a FACT in its place", x.fact(0, 1, -20), 12);
        apart(x, 0, 1, 11, 20);
        // alike ones are FACTS of their own
        KeyFists y = events(500, 500);
        for (int fact = 1; fact <= 12; fact++) {
            due.is("fact alike", y.fact(1, 0, 0), fact);
        }
        due.is("the 13th alike", y.fact(1, 0, 0), NONE);
    }

    // 28: undo

    private static void undoToNone() {
        KeyFists x = new KeyFists();
        due.is("undo without EVENTS", x.undo(), NONE);
        x.event(0, 500);
        x.event(1, 500);
        due.is("undo without FACTS", x.undo(), NONE);
        due.is("FACTS then", x.count(7), 0);
        x.fact(1, 0, 0);
        due.is("undo of the only FACT", x.undo(), 0);
        due.is("FACTS then", x.count(7), 0);
        due.is("undo without FACTS", x.undo(), NONE);
        due.is("undo without FACTS", x.undo(), NONE);
        due.is("EVENTS stay", x.count(6), 2);
        due.is("the next FACT", x.fact(1, 0, 0), 1);
    }

    private static void undoTheLastOneAlone() {
        KeyFists x = events(500, 500, 500);
        x.clock(0, -60, 60);
        x.clock(1, -60, 60);
        x.clock(2, -60, 60);
        x.fact(1, 0, 30);
        x.fact(2, 1, 40);
        x.fact(1, 0, 70);
        apart(x, 0, 1, 70, 80);
        apart(x, 0, 2, 110, 120);
        due.is("undo", x.undo(), 2);
        apart(x, 0, 1, 30, 80);
        apart(x, 0, 2, 70, 120);
        due.is("undo", x.undo(), 1);
        apart(x, 0, 1, 30, 120);
        apart(x, 0, 2, -90, 120);
        due.is("undo", x.undo(), 0);
        apart(x, 0, 1, -120, 120);
    }

    // 5: the CLOCKS CAN BE

    private static void numbersThatAgree() {
        // the second EVENT is from 40 to 60 behind the first one by its CLOCK
        KeyFists x = events(500, 550);
        x.clock(1, -10, 10);
        apart(x, 0, 1, 40, 60);
        x.fact(1, 0, 60);
        apart(x, 0, 1, 60, 60);
        x.undo();
        x.fact(1, 0, 61);
        apart(x, 0, 1, VOID, VOID);
        x.undo();
        x.fact(0, 1, -40);
        apart(x, 0, 1, 40, 40);
        x.undo();
        x.fact(0, 1, -39);
        apart(x, 0, 1, VOID, VOID);
        x.undo();
        apart(x, 0, 1, 40, 60);
    }

    private static void factsThatContradict() {
        KeyFists x = events(500, 500, 500);
        for (int station = 0; station < 3; station++) {
            x.clock(station, -60, 60);
        }
        x.fact(1, 0, 5);
        due.is("a FACT that agrees", x.fact(0, 1, -5), 2);
        apart(x, 0, 1, 5, 5);
        x.undo();
        due.is("a FACT that doesn't is taken", x.fact(0, 1, -4), 2);
        apart(x, 0, 1, VOID, VOID);
        apart(x, 0, 0, VOID, VOID);
        apart(x, 2, 2, VOID, VOID);
        due.is("first(0, 2)", x.first(0, 2), NONE);
        due.is("first(2, 2)", x.first(2, 2), NONE);
        due.is("FACTS", x.count(7), 2);
        due.is("undo", x.undo(), 1);
        apart(x, 0, 1, 5, 120);
        // round three EVENTS
        x.fact(2, 1, 5);
        x.fact(0, 2, -10);
        apart(x, 0, 2, 10, 10);
        x.undo();
        x.fact(0, 2, -9);
        apart(x, 0, 2, VOID, VOID);
        due.is("first(0, 1)", x.first(0, 1), NONE);
    }

    private static void clocksThatContradictAFact() {
        KeyFists x = events(500, 500);
        x.clock(0, -60, 60);
        x.fact(1, 0, 20);
        apart(x, 0, 1, 20, 60);
        due.is("a CLOCK that just agrees", x.clock(0, -60, 20), true);
        apart(x, 0, 1, 20, 20);
        due.is("a CLOCK that doesn't is taken", x.clock(0, -60, 19), true);
        apart(x, 0, 1, VOID, VOID);
        due.is("first(0, 1)", x.first(0, 1), NONE);
        due.is("a CLOCK that agrees again", x.clock(0, 30, 40), true);
        apart(x, 0, 1, 30, 40);
        // both of one STATION: no CLOCK can change how they are apart
        for (int station = 0; station < 6; station++) {
            byOneClock(station);
        }
    }

    private static void byOneClock(int station) {
        KeyFists x = new KeyFists();
        x.event(station, 10);
        x.event(station, 20);
        for (int other = 0; other < 6; other++) {
            x.clock(other, -60, 60);
            x.event(other, 15);
        }
        apart(x, 0, 1, 10, 10);
        x.fact(1, 0, 10);
        apart(x, 0, 1, 10, 10);
        x.fact(0, 1, -10);
        apart(x, 0, 1, 10, 10);
        x.fact(0, 1, -9);
        for (int event = 0; event < 8; event++) {
            apart(x, event, 7 - event, VOID, VOID);
            due.is("first(" + event + ", " + event + ")", x.first(event, event), NONE);
        }
        x.undo();
        apart(x, 0, 1, 10, 10);
        x.fact(1, 0, 11);
        apart(x, 0, 1, VOID, VOID);
        apart(x, 2, 7, VOID, VOID);
    }

    /** By how little FACTS of any two STATIONS contradict: by one MINUTE. */
    private static void factsOfEachTwoStations() {
        for (int one = 0; one < 6; one++) {
            for (int other = 0; other < 6; other++) {
                if (one == other) {
                    continue;
                }
                KeyFists x = new KeyFists();
                for (int station = 0; station < 6; station++) {
                    x.clock(station, -60, 60);
                    x.event(station, 500);
                }
                x.fact(one, other, 7);
                x.fact(other, one, -7);
                apart(x, other, one, 7, 7);
                apart(x, one, other, -7, -7);
                x.undo();
                x.fact(other, one, -6);
                apart(x, other, one, VOID, VOID);
                for (int station = 0; station < 6; station++) {
                    apart(x, station, station, VOID, VOID);
                }
            }
        }
    }

    private static void eventsThatNoFactNames() {
        KeyFists x = events(500, 500, 500, 500);
        for (int station = 0; station < 4; station++) {
            x.clock(station, -10, 10);
        }
        x.fact(1, 0, 20);
        // these CLOCKS are 10 ahead and 10 behind then
        apart(x, 0, 1, 20, 20);
        apart(x, 0, 2, 0, 20);
        apart(x, 1, 2, -20, 0);
        apart(x, 2, 3, -20, 20);
        due.is("first(0, 2)", x.first(0, 2), NONE);
        due.is("first(2, 3)", x.first(2, 3), NONE);
        x.fact(1, 0, 21);
        apart(x, 2, 3, VOID, VOID);
        KeyFists y = events(500, 500, 500);
        y.clock(0, -60, 60);
        y.clock(1, -60, 60);
        y.fact(1, 0, 10);
        apart(y, 0, 1, 10, 120);
        apart(y, 0, 2, -50, 60);
        apart(y, 1, 2, -60, 50);
    }

    private static void throughOtherStations() {
        KeyFists x = events(500, 500, 500, 500, 500, 500);
        for (int station = 0; station < 6; station++) {
            x.clock(station, -60, 60);
        }
        for (int station = 5; station > 0; station--) {
            x.fact(station, station - 1, 24);
            apart(x, station - 1, station, 24, station == 5 ? 120 : 120 - 24 * (5 - station));
        }
        apart(x, 0, 5, 120, 120);
        apart(x, 0, 1, 24, 24);
        x.fact(3, 2, 25);
        apart(x, 0, 5, VOID, VOID);
        x.undo();
        apart(x, 5, 0, -120, -120);
        // two EVENTS of one STATION between
        KeyFists y = new KeyFists();
        y.clock(0, -60, 60);
        y.clock(1, -60, 60);
        y.clock(2, -60, 60);
        y.event(0, 500);
        y.event(1, 500);
        y.event(1, 530);
        y.event(2, 500);
        y.fact(1, 0, 1);
        y.fact(3, 2, 1);
        apart(y, 0, 3, 32, 120);
        apart(y, 0, 2, 31, 119);
        apart(y, 1, 3, 31, 119);
    }

    // 29, 30: apart and first

    private static void apartLeastAndGreatest() {
        KeyFists x = events(100, 103);
        x.clock(0, -5, 5);
        apart(x, 0, 1, -2, 8);
        apart(x, 1, 0, -8, 2);
        apart(x, 0, 0, 0, 0);
        apart(x, 1, 1, 0, 0);
        x.clock(1, 1, 3);
        apart(x, 0, 1, 3 - 5 - 3, 3 + 5 - 1);
    }

    private static void apartOfOthers() {
        KeyFists x = events(100, 103);
        for (int what : new int[] {MIN, -2, -1, 2, 3, 10, MAX}) {
            due.is("apart(0, 1, " + what + ")", x.apart(0, 1, what), VOID);
            due.is("apart(0, 0, " + what + ")", x.apart(0, 0, what), VOID);
        }
    }

    private static void apartNoneSuch() {
        KeyFists x = new KeyFists();
        apart(x, 0, 0, VOID, VOID);
        for (int events = 0; events < 12; events++) {
            apart(x, events, 0, VOID, VOID);
            apart(x, 0, events, VOID, VOID);
            apart(x, events, events, VOID, VOID);
            x.event(0, events);
            apart(x, 0, events, events, events);
        }
        for (int event : new int[] {MIN, -2, -1, 12, 13, MAX}) {
            apart(x, event, 0, VOID, VOID);
            apart(x, 0, event, VOID, VOID);
            apart(x, event, event, VOID, VOID);
        }
    }

    private static void first(int least, int greatest, int want) {
        KeyFists x = events(500, 500);
        x.clock(0, least, greatest);
        apart(x, 0, 1, least, greatest);
        int turned = want == 1 ? 2 : want == 2 ? 1 : want;
        due.is("first with " + least + " .. " + greatest, x.first(0, 1), want);
        due.is("first with " + least + " .. " + greatest + " the other way round", x.first(1, 0), turned);
    }

    private static void firstForSure() {
        first(1, 1, 1);
        first(1, 60, 1);
        first(60, 60, 1);
        first(-1, -1, 2);
        first(-60, -1, 2);
        first(-60, -60, 2);
        first(0, 0, 0);
        KeyFists x = events(500, 999, 0);
        due.is("first(0, 1)", x.first(0, 1), 1);
        due.is("first(0, 2)", x.first(0, 2), 2);
        due.is("first(0, 0)", x.first(0, 0), 0);
        x.clock(0, -60, 60);
        due.is("an EVENT and itself by a CLOCK that is off", x.first(0, 0), 0);
    }

    private static void firstNotForSure() {
        first(0, 1, NONE);
        first(-1, 0, NONE);
        first(-1, 1, NONE);
        first(0, 60, NONE);
        first(-60, 0, NONE);
        first(-60, 60, NONE);
        // a FACT makes it sure
        KeyFists x = events(500, 500);
        x.clock(0, -5, 5);
        due.is("first", x.first(0, 1), NONE);
        x.fact(1, 0, 0);
        due.is("first with as late at least", x.first(0, 1), NONE);
        x.fact(0, 1, 0);
        due.is("first with as late", x.first(0, 1), 0);
        x.undo();
        x.fact(1, 0, 1);
        due.is("first with later", x.first(0, 1), 1);
        due.is("first with later", x.first(1, 0), 2);
    }

    private static void firstNoneSuch() {
        KeyFists x = new KeyFists();
        due.is("first(0, 0) without EVENTS", x.first(0, 0), NONE);
        x.event(0, 5);
        x.event(1, 5);
        for (int event : new int[] {MIN, -2, -1, 2, 3, 12, MAX}) {
            due.is("first(" + event + ", 0)", x.first(event, 0), NONE);
            due.is("first(0, " + event + ")", x.first(0, event), NONE);
            due.is("first(" + event + ", " + event + ")", x.first(event, event), NONE);
        }
        due.is("first(0, 1)", x.first(0, 1), 0);
    }

    private static void theFarthestApart() {
        KeyFists x = events(0, 999);
        x.clock(0, -60, 60);
        x.clock(1, -60, 60);
        apart(x, 0, 1, 999 - 120, 999 + 120);
        apart(x, 1, 0, -999 - 120, -999 + 120);
        x.clock(0, 60, 60);
        x.clock(1, -60, -60);
        apart(x, 0, 1, 1119, 1119);
        apart(x, 1, 0, -1119, -1119);
    }
}
