/** Promises 25 to 30: CLOCKS, EVENTS, FACTS, and what was first by how much. */
public final class ClocksTest {
    private static final Due due = new Due("ClocksTest");
    private static final int VOID = Integer.MIN_VALUE;

    public static void main(String[] args) {
        clock();
        event();
        facts();
        clocksThatAreRight();
        oneClock();
        chains();
        clocksThatCantBe();
        manyFacts();
        due.end();
    }

    private static void clock() {
        KeyFists x = new KeyFists();
        int[][] wrong = {{-1, 0, 0}, {6, 0, 0}, {0, 1, 0}, {0, -61, 0}, {0, 0, 61}, {0, 60, -60},
            {Integer.MAX_VALUE, 0, 0}, {0, Integer.MIN_VALUE, 0}, {0, 0, Integer.MAX_VALUE}};
        x.event(0, 10);
        x.event(1, 10);
        for (int[] of : wrong) {
            due.is("clock(" + of[0] + ", " + of[1] + ", " + of[2] + ")", x.clock(of[0], of[1], of[2]), false);
        }
        apart(x, 0, 1, 0, 0);
        due.is("clock(0, -60, 60)", x.clock(0, -60, 60), true);
        apart(x, 0, 1, -60, 60);
        due.is("clock(0, 60, 60)", x.clock(0, 60, 60), true);
        apart(x, 0, 1, 60, 60);
        due.is("clock(0, -60, -60)", x.clock(0, -60, -60), true);
        apart(x, 0, 1, -60, -60);
        due.is("clock(1, 5, 7)", x.clock(1, 5, 7), true);
        apart(x, 0, 1, -67, -65);
        apart(x, 1, 0, 65, 67);
        due.is("clock(5, 0, 0)", x.clock(5, 0, 0), true);
    }

    private static void apart(KeyFists x, int one, int other, int least, int greatest) {
        due.is("apart(" + one + ", " + other + ", 0)", x.apart(one, other, 0), least);
        due.is("apart(" + one + ", " + other + ", 1)", x.apart(one, other, 1), greatest);
    }

    private static void event() {
        KeyFists x = new KeyFists();
        int[][] wrong = {{-1, 0}, {6, 0}, {0, -1}, {0, 1000}, {Integer.MIN_VALUE, 0}, {0, Integer.MAX_VALUE}};
        for (int[] of : wrong) {
            due.is("event(" + of[0] + ", " + of[1] + ")", x.event(of[0], of[1]), -1);
        }
        due.is("events", x.count(6), 0);
        due.is("event with the least", x.event(0, 0), 0);
        due.is("event with the greatest", x.event(5, 999), 1);
        for (int event = 2; event < 12; event++) {
            due.is("event", x.event(event % 6, event), event);
        }
        due.is("the 13th event", x.event(0, 0), -1);
        due.is("events", x.count(6), 12);
        apart(x, 0, 1, 999, 999);
        apart(x, 1, 11, -988, -988);
        int[][] none = {{0, 12}, {12, 0}, {-1, 0}, {0, -1}, {Integer.MAX_VALUE, 0}, {0, Integer.MIN_VALUE}};
        for (int[] of : none) {
            apart(x, of[0], of[1], VOID, VOID);
            due.is("first(" + of[0] + ", " + of[1] + ")", x.first(of[0], of[1]), -1);
        }
        due.is("apart(0, 1, 2)", x.apart(0, 1, 2), VOID);
        due.is("apart(0, 1, -1)", x.apart(0, 1, -1), VOID);
    }

    private static void facts() {
        KeyFists x = new KeyFists();
        due.is("undo without", x.undo(), -1);
        due.is("fact without EVENTS", x.fact(0, 1, 0), -1);
        x.event(0, 5);
        x.event(1, 5);
        x.clock(0, -60, 60);
        x.clock(1, -60, 60);
        int[][] wrong = {{0, 0, 0}, {1, 1, -1}, {2, 0, 0}, {0, 2, 0}, {-1, 0, 0}, {0, -1, 0}, {1, 0, 100}, {1, 0, -100},
            {Integer.MAX_VALUE, 0, 0}, {0, Integer.MIN_VALUE, 0}, {0, 1, Integer.MIN_VALUE}};
        for (int[] of : wrong) {
            due.is("fact(" + of[0] + ", " + of[1] + ", " + of[2] + ")", x.fact(of[0], of[1], of[2]), -1);
        }
        due.is("facts", x.count(7), 0);
        apart(x, 0, 1, -120, 120);
        due.is("fact(1, 0, 99)", x.fact(1, 0, 99), 1);
        apart(x, 0, 1, 99, 120);
        due.is("fact(0, 1, -99)", x.fact(0, 1, -99), 2);
        apart(x, 0, 1, 99, 99);
        due.is("undo", x.undo(), 1);
        apart(x, 0, 1, 99, 120);
        due.is("undo", x.undo(), 0);
        due.is("undo", x.undo(), -1);
        apart(x, 0, 1, -120, 120);
        due.is("fact in its place", x.fact(0, 1, 7), 1);
        apart(x, 0, 1, -120, -7);
        for (int fact = 2; fact <= 12; fact++) {
            due.is("fact", x.fact(0, 1, fact), fact);
        }
        due.is("the 13th fact", x.fact(0, 1, 50), -1);
        due.is("facts", x.count(7), 12);
        apart(x, 0, 1, -120, -12);
    }

    private static void clocksThatAreRight() {
        KeyFists x = new KeyFists();
        x.event(0, 100);
        x.event(1, 100);
        x.event(2, 101);
        due.is("first(0, 1)", x.first(0, 1), 0);
        due.is("first(0, 2)", x.first(0, 2), 1);
        due.is("first(2, 0)", x.first(2, 0), 2);
        due.is("first(2, 2)", x.first(2, 2), 0);
        x.clock(2, 0, 1);
        due.is("later or the same", x.first(0, 2), -1);
        due.is("later or the same", x.first(2, 0), -1);
        x.clock(2, 0, 2);
        due.is("not sure", x.first(0, 2), -1);
        x.clock(2, 1, 1);
        due.is("the same", x.first(0, 2), 0);
        due.is("true time is less than the CLOCK that is ahead", x.apart(0, 2, 0), 0);
        x.clock(2, 2, 3);
        due.is("first(0, 2)", x.first(0, 2), 2);
        apart(x, 0, 2, -2, -1);
        apart(x, 2, 2, 0, 0);
    }

    private static void oneClock() {
        KeyFists x = new KeyFists();
        x.clock(3, -60, 60);
        x.event(3, 10);
        x.event(3, 14);
        apart(x, 0, 1, 4, 4);
        due.is("first by one CLOCK", x.first(0, 1), 1);
        x.fact(1, 0, 4);
        apart(x, 0, 1, 4, 4);
        x.fact(1, 0, 5);
        apart(x, 0, 1, VOID, VOID);
        due.is("first by a CLOCK that can't be", x.first(0, 1), -1);
        due.is("first(0, 0) by it", x.first(0, 0), -1);
        x.undo();
        apart(x, 0, 1, 4, 4);
        x.fact(0, 1, -4);
        apart(x, 0, 1, 4, 4);
        x.fact(0, 1, -3);
        apart(x, 0, 1, VOID, VOID);
    }

    private static void chains() {
        KeyFists x = new KeyFists();
        for (int station = 0; station < 6; station++) {
            x.clock(station, -10, 10);
            x.event(station, 100);
        }
        for (int event = 1; event < 6; event++) {
            x.fact(event, event - 1, 4);
        }
        apart(x, 0, 5, 20, 20);
        apart(x, 0, 1, 4, 4);
        due.is("undo", x.undo(), 4);
        apart(x, 0, 4, 16, 20);
        apart(x, 0, 1, 4, 8);
        apart(x, 0, 5, -4, 20);
        due.is("first(0, 4)", x.first(0, 4), 1);
        due.is("first(4, 0)", x.first(4, 0), 2);
        x.clock(2, 0, 0);
        apart(x, 0, 2, 8, 10);
        apart(x, 2, 4, 8, 10);
        x.clock(2, 3, 3);
        apart(x, 0, 4, VOID, VOID);
        x.clock(2, 2, 3);
        apart(x, 0, 4, 16, 20);
    }

    private static void clocksThatCantBe() {
        KeyFists x = new KeyFists();
        x.event(0, 100);
        x.event(1, 150);
        x.clock(1, -5, 5);
        x.event(4, 1);
        due.is("what can't be stands", x.fact(0, 1, 0), 1);
        apart(x, 0, 2, VOID, VOID);
        due.is("first(0, 2)", x.first(0, 2), -1);
        due.is("first(2, 2)", x.first(2, 2), -1);
        x.clock(0, -45, 60);
        apart(x, 0, 1, 0, 0);
        due.is("first(0, 1)", x.first(0, 1), 0);
        x.clock(0, -60, -50);
        apart(x, 0, 1, -15, 0);
        KeyFists y = new KeyFists();
        for (int station = 0; station < 3; station++) {
            y.clock(station, -60, 60);
            y.event(station, 10);
        }
        y.fact(1, 0, 1);
        y.fact(2, 1, 1);
        y.fact(0, 2, -2);
        apart(y, 0, 2, 2, 2);
        y.undo();
        y.fact(0, 2, -1);
        apart(y, 0, 2, VOID, VOID);
    }

    private static void manyFacts() {
        KeyFists x = new KeyFists();
        for (int event = 0; event < 12; event++) {
            x.clock(event % 6, -60, 60);
            x.event(event % 6, event % 2 * 999);
        }
        for (int fact = 0; fact < 12; fact++) {
            x.fact(fact % 2 * 2, 1 + fact % 5 * 2, 99);
        }
        apart(x, 0, 1, VOID, VOID);
        while (x.undo() > 0) {
            apart(x, 0, 1, VOID, VOID);
        }
        apart(x, 0, 1, 879, 1119);
    }
}
