import java.util.ArrayList;
import java.util.List;
import java.util.function.Consumer;
import java.util.function.ToLongFunction;

/**
 * What is refused changes nothing, and what only asks doesn't either: behind each such call the object answers
 * all that it can be asked, and all that is done with it then, as one that was made alike without the call.
 */
public final class RefusedTest {
    private static final Due due = new Due("RefusedTest");
    private static final int MIN = Integer.MIN_VALUE;
    private static final int MAX = Integer.MAX_VALUE;
    private static final int NONE = KeyFists.NONE;
    // An object is used for 512 calls; what makes it takes some of them.
    private static final int CALLS = 512;

    /** A call, what it is called, and what is due where that is told. */
    private static final class Call {
        final String name;
        final ToLongFunction<KeyFists> does;
        final long want;

        Call(String name, ToLongFunction<KeyFists> does, long want) {
            this.name = name;
            this.does = does;
            this.want = want;
        }
    }

    /** A way to make an object, and what it answers then. */
    private static final class Maker {
        final String name;
        final int calls;
        final Consumer<KeyFists> makes;
        final long[] answers;

        Maker(String name, int calls, Consumer<KeyFists> makes) {
            this.name = name;
            this.calls = calls;
            this.makes = makes;
            this.answers = answers(null);
        }

        KeyFists make() {
            KeyFists x = new KeyFists();
            makes.accept(x);
            return x;
        }

        long[] answers(Call call) {
            long[] answers = new long[all.size()];
            int at = 0;
            while (at < questions.size()) {
                KeyFists x = makeAndCall(call);
                for (int used = calls + 1; used < CALLS && at < questions.size(); used++) {
                    answers[at] = questions.get(at).does.applyAsLong(x);
                    at++;
                }
            }
            for (List<Call> deeds : allDeeds) {
                KeyFists x = makeAndCall(call);
                for (Call deed : deeds) {
                    answers[at] = deed.does.applyAsLong(x);
                    at++;
                }
            }
            return answers;
        }

        private KeyFists makeAndCall(Call call) {
            KeyFists x = make();
            if (call != null) {
                call.does.applyAsLong(x);
            }
            return x;
        }
    }

    private static final List<Call> questions = new ArrayList<>();
    // Each list is for an object of its own.
    private static final List<List<Call>> allDeeds = new ArrayList<>();
    private static final List<Call> all = new ArrayList<>();

    public static void main(String[] args) {
        addQuestions();
        allDeeds.add(deedsWithTheTape());
        allDeeds.add(deedsWithFacts());
        allDeeds.add(deedsWithTheText());
        all.addAll(questions);
        for (List<Call> deeds : allDeeds) {
            all.addAll(deeds);
        }
        Maker nothing = new Maker("a new object", 0, x -> { });
        Maker some = new Maker("some of all", 60, RefusedTest::makeSome);
        Maker full = new Maker("an object that is full", 260, RefusedTest::makeFull);
        for (List<Call> deeds : allDeeds) {
            due.is("deeds fit behind what makes an object", deeds.size() + full.calls < CALLS, true);
        }
        due.is("the CLOCKS CAN BE", some.make().first(0, 1) == 1 && full.make().first(0, 0) == 0, true);
        for (Maker maker : new Maker[] {nothing, some, full}) {
            for (Call call : never()) {
                unchanged(maker, call);
            }
            for (Call call : questions) {
                asked(maker, call);
            }
        }
        for (Call call : withNothing()) {
            unchanged(nothing, call);
        }
        for (Call call : withSome()) {
            unchanged(some, call);
        }
        for (Call call : whereAllPlacesAreTaken()) {
            unchanged(full, call);
        }
        due.end();
    }

    private static void unchanged(Maker maker, Call call) {
        due.is(call.name + " by " + maker.name, call.does.applyAsLong(maker.make()), call.want);
        asked(maker, call);
    }

    private static void asked(Maker maker, Call call) {
        long[] answers = maker.answers(call);
        for (int at = 0; at < answers.length; at++) {
            if (answers[at] != maker.answers[at]) {
                due.is(all.get(at).name + " behind " + call.name + " by " + maker.name, answers[at], maker.answers[at]);
                return;
            }
        }
        due.is(call.name + " by " + maker.name + " changes nothing", true, true);
    }

    private static Call call(String name, ToLongFunction<KeyFists> does) {
        return new Call(name, does, 0);
    }

    private static Call refused(String name, ToLongFunction<KeyFists> does) {
        return new Call(name, does, NONE);
    }

    private static Call isFalse(String name, ToLongFunction<KeyFists> does) {
        return new Call(name, does, 0);
    }

    private static long told(boolean answer) {
        return answer ? 1 : 0;
    }

    // What makes objects

    private static void makeSome(KeyFists x) {
        Due.code(x, "letter e 1;letter t 2;letter a 12;word n is tea;word m is eat;word o is tat;");
        x.hand(10020, 30050, 10015, 16030, 31060);
        x.hand(1255, 1255, 1255, 1255, 1255);
        x.hand(10030, 31050, 10015, 16030, 31060);
        x.line(0, 1, 0, 0);
        x.line(1, 2, 3, 1);
        x.line(3, 0, 20, 2);
        x.rain(2);
        Due.tape(x, 15, 20, 40, 12, 35);
        x.message(2, 320, 1);
        x.message(1, 10, 0);
        x.message(32, 5, 3);
        x.clock(0, -5, 5);
        x.clock(1, 2, 3);
        x.clock(4, -60, 60);
        x.event(0, 100);
        x.event(1, 103);
        x.event(4, 110);
        x.event(4, 90);
        x.fact(1, 0, 2);
        x.fact(2, 0, 40);
        x.fact(2, 1, 45);
        Due.text(x, "ett");
    }

    private static void makeFull(KeyFists x) {
        Due.code(x, Due.words(20));
        for (int number = 0; number < 8; number++) {
            x.hand(10020 + number, 30050, 10015, 16030, 31060);
            x.line(number % 4, (number + 1) % 6, number, number);
        }
        x.rain(9);
        for (int length = 0; length < 120; length++) {
            x.length(length % 2 == 0 ? 15 : 20);
        }
        for (int message = 0; message < 20; message++) {
            x.message(1, message % 3 * 100 + message % 7 + 1, message % 4);
        }
        for (int event = 0; event < 12; event++) {
            x.event(event % 6, event * 10);
        }
        for (int station = 0; station < 6; station++) {
            x.clock(station, -60, 60);
        }
        for (int fact = 0; fact < 12; fact++) {
            x.fact(fact % 6, (fact + 1) % 6, -fact - 20);
        }
        StringBuilder sayings = new StringBuilder();
        for (int place = 0; place < 500; place++) {
            sayings.append("abc".charAt(place % 3));
        }
        Due.text(x, sayings.toString());
    }

    // What can be asked without a change

    private static void addQuestions() {
        for (int number = -1; number <= 10; number++) {
            int n = number;
            questions.add(call("count(" + n + ")", x -> x.count(n)));
            questions.add(call("bite(" + n + ")", x -> x.bite(n)));
            questions.add(call("suspects(" + n + ")", x -> x.suspects(n)));
            questions.add(call("mended(0, 3, " + n + ")", x -> x.mended(0, 3, n)));
            questions.add(call("mended(1, 1, " + n + ")", x -> x.mended(1, 1, n)));
            questions.add(call("route(0, 1, " + n + ")", x -> x.route(0, 1, n)));
            questions.add(call("route(3, 2, " + n + ")", x -> x.route(3, 2, n)));
        }
        questions.add(call("fault()", x -> x.fault()));
        for (int number = -1; number <= 26; number++) {
            int n = number;
            questions.add(call("marks(" + n + ")", x -> x.marks(n)));
            questions.add(call("group(" + n + ")", x -> x.group(n)));
            questions.add(call("tape(" + n * 5 + ")", x -> x.tape(n * 5)));
            questions.add(call("tape(" + n + ")", x -> x.tape(n)));
        }
        for (int hand = 0; hand < 4; hand++) {
            for (int line = 0; line < 4; line++) {
                addQuestions(hand, line);
            }
        }
        for (int message = -1; message <= 20; message++) {
            int m = message;
            questions.add(call("sent(" + m + ", 0, 0)", x -> x.sent(m, 0, 0)));
            questions.add(call("sent(" + m + ", 1, 0)", x -> x.sent(m, 1, 0)));
            for (int at = 0; at < 40; at += 3) {
                int minute = at;
                questions.add(call("sent(" + m + ", 2, " + at + ")", x -> x.sent(m, 2, minute)));
            }
            questions.add(call("tap(0, " + m + ")", x -> x.tap(0, m)));
            questions.add(call("tap(1, " + m + ")", x -> x.tap(1, m)));
            questions.add(call("tap(2, " + m + ")", x -> x.tap(2, m)));
        }
        for (int event = 0; event <= 12; event++) {
            int e = event;
            questions.add(call("apart(0, " + e + ", 0)", x -> x.apart(0, e, 0)));
            questions.add(call("apart(0, " + e + ", 1)", x -> x.apart(0, e, 1)));
        }
        for (int one = 0; one < 6; one++) {
            for (int other = 0; other < 6; other++) {
                int a = one;
                int b = other;
                questions.add(call("route(" + a + ", " + b + ", -1)", x -> x.route(a, b, NONE)));
                questions.add(call("apart(" + a + ", " + b + ", 0)", x -> x.apart(a, b, 0)));
                questions.add(call("apart(" + a + ", " + b + ", 1)", x -> x.apart(a, b, 1)));
                questions.add(call("first(" + a + ", " + b + ")", x -> x.first(a, b)));
            }
        }
    }

    private static void addQuestions(int hand, int line) {
        String by = "(" + hand + ", " + line;
        questions.add(call("readings" + by + ")", x -> x.readings(hand, line)));
        for (int k = -3; k < 7; k++) {
            int n = k;
            questions.add(call("nearest" + by + ", " + k + ")", x -> x.nearest(hand, line, n)));
        }
        for (int other = 0; other < 4; other++) {
            int b = other;
            questions.add(call("likelier(" + other + ", " + hand + ", " + line + ")", x -> x.likelier(b, hand, line)));
        }
    }

    // What can be done then, in this order: all of it tells what the object holds

    private static List<Call> deedsWithTheTape() {
        List<Call> deeds = new ArrayList<>();
        deeds.add(call("length(77)", x -> x.length(77)));
        deeds.add(call("cut(119)", x -> told(x.cut(119))));
        for (int hand = 0; hand < 8; hand++) {
            int h = hand;
            deeds.add(call("readings(" + h + ", 0)", x -> x.readings(h, 0)));
            deeds.add(call("nearest(" + h + ", 0, -2)", x -> x.nearest(h, 0, -2)));
        }
        deeds.add(call("cut(3)", x -> told(x.cut(3))));
        for (int hand = 0; hand < 8; hand++) {
            int h = hand;
            deeds.add(call("nearest(" + h + ", 0, -2)", x -> x.nearest(h, 0, -2)));
        }
        deeds.add(call("end(5)", x -> told(x.end(5))));
        for (int hand = 0; hand < 8; hand++) {
            int h = hand;
            deeds.add(call("key(" + h + ", 0, 5)", x -> x.key(h, 0, 5)));
            for (int k = 0; k < 12; k++) {
                int n = k;
                deeds.add(call("tape(" + k + ")", x -> x.tape(n)));
            }
        }
        deeds.add(call("hand(..)", x -> x.hand(10020, 10020, 10020, 10020, 10020)));
        deeds.add(call("line(3, 4, 1, 1)", x -> x.line(3, 4, 1, 1)));
        deeds.add(call("rain(1)", x -> told(x.rain(1))));
        deeds.add(call("bite(1)", x -> x.bite(1)));
        deeds.add(call("cut(1)", x -> told(x.cut(1))));
        deeds.add(call("tape(0)", x -> x.tape(0)));
        return deeds;
    }

    private static List<Call> deedsWithFacts() {
        List<Call> deeds = new ArrayList<>();
        deeds.add(call("message(34, 105, 2)", x -> x.message(34, 105, 2)));
        deeds.add(call("event(2, 7)", x -> x.event(2, 7)));
        deeds.add(call("fact(0, 1, 1)", x -> x.fact(0, 1, 1)));
        for (int fact = 0; fact < 13; fact++) {
            deeds.add(call("undo()", x -> x.undo()));
            for (int event = 1; event < 6; event++) {
                int e = event;
                deeds.add(call("apart(0, " + e + ", 0)", x -> x.apart(0, e, 0)));
                deeds.add(call("apart(0, " + e + ", 1)", x -> x.apart(0, e, 1)));
            }
        }
        return deeds;
    }

    private static List<Call> deedsWithTheText() {
        List<Call> deeds = new ArrayList<>();
        deeds.add(call("cut(1)", x -> told(x.cut(1))));
        deeds.add(call("code()", x -> x.code()));
        // each byte of the text in its turn at the end of it
        for (int end = 499; end >= 0; end -= end > 30 ? 60 : 1) {
            int n = end;
            deeds.add(call("end(" + n + ")", x -> told(x.end(n))));
            deeds.add(call("suspects(-1)", x -> x.suspects(NONE)));
        }
        deeds.add(call("feed(..)", x -> x.feed(0x6C657474, 0x65722071, 0x20313B20, 0x20202020, 0x20202020)));
        deeds.add(call("fault()", x -> x.fault()));
        deeds.add(call("code()", x -> x.code()));
        deeds.add(call("marks(16)", x -> x.marks(16)));
        return deeds;
    }

    // What no object takes

    private static List<Call> never() {
        List<Call> calls = new ArrayList<>();
        for (int wrong : new int[] {MIN, -1, 501, MAX}) {
            calls.add(isFalse("end(" + wrong + ")", x -> told(x.end(wrong))));
            calls.add(isFalse("cut(" + wrong + ")", x -> told(x.cut(wrong))));
            calls.add(isFalse("rain(" + wrong + ")", x -> told(x.rain(wrong))));
            calls.add(refused("marks(" + wrong + ")", x -> x.marks(wrong)));
            calls.add(refused("group(" + wrong + ")", x -> x.group(wrong)));
            calls.add(refused("bite(" + wrong + ")", x -> x.bite(wrong)));
            calls.add(refused("tape(" + wrong + ")", x -> x.tape(wrong)));
            calls.add(refused("count(" + wrong + ")", x -> x.count(wrong)));
            calls.add(refused("tap(" + wrong + ", -1)", x -> x.tap(wrong, NONE)));
            calls.add(refused("first(" + wrong + ", 0)", x -> x.first(wrong, 0)));
            calls.add(refused("readings(" + wrong + ", 0)", x -> x.readings(wrong, 0)));
            calls.add(refused("readings(0, " + wrong + ")", x -> x.readings(0, wrong)));
            calls.add(refused("nearest(" + wrong + ", 0, -1)", x -> x.nearest(wrong, 0, NONE)));
            calls.add(refused("key(" + wrong + ", 0, 5)", x -> x.key(wrong, 0, 5)));
            calls.add(refused("key(0, " + wrong + ", 5)", x -> x.key(0, wrong, 5)));
            calls.add(refused("likelier(" + wrong + ", 0, 0)", x -> x.likelier(wrong, 0, 0)));
            calls.add(refused("mended(0, " + wrong + ", -1)", x -> x.mended(0, wrong, NONE)));
            calls.add(refused("route(" + wrong + ", 0, -1)", x -> x.route(wrong, 0, NONE)));
            calls.add(refused("sent(" + wrong + ", 0, 0)", x -> x.sent(wrong, 0, 0)));
            calls.add(refused("message(" + wrong + ", 1, 0)", x -> x.message(wrong, 1, 0)));
            calls.add(refused("event(" + wrong + ", 5)", x -> x.event(wrong, 5)));
            calls.add(refused("line(" + wrong + ", 1, 0, 0)", x -> x.line(wrong, 1, 0, 0)));
            calls.add(refused("fact(" + wrong + ", 0, 0)", x -> x.fact(wrong, 0, 0)));
            calls.add(isFalse("clock(" + wrong + ", -1, 1)", x -> told(x.clock(wrong, -1, 1))));
            calls.add(new Call("apart(" + wrong + ", 0, 0)", x -> x.apart(wrong, 0, 0), KeyFists.VOID));
        }
        neverHands(calls);
        calls.add(isFalse("rain(10)", x -> told(x.rain(10))));
        calls.add(refused("line(1, 1, 0, 0)", x -> x.line(1, 1, 0, 0)));
        calls.add(refused("line(1, 6, 0, 0)", x -> x.line(1, 6, 0, 0)));
        calls.add(refused("line(0, 1, 100, 0)", x -> x.line(0, 1, 100, 0)));
        calls.add(refused("line(0, 1, -1, 0)", x -> x.line(0, 1, -1, 0)));
        calls.add(refused("line(0, 1, 0, 21)", x -> x.line(0, 1, 0, 21)));
        calls.add(refused("line(0, 1, 0, -1)", x -> x.line(0, 1, 0, -1)));
        calls.add(refused("length(0)", x -> x.length(0)));
        calls.add(refused("length(1000)", x -> x.length(1000)));
        calls.add(refused("key(0, 0, -1)", x -> x.key(0, 0, -1)));
        calls.add(refused("key(0, 0, 1000001)", x -> x.key(0, 0, 1000001)));
        calls.add(refused("message(1, 100, 0)", x -> x.message(1, 100, 0)));
        calls.add(refused("message(1, 61, 0)", x -> x.message(1, 61, 0)));
        calls.add(refused("message(1, 20101, 0)", x -> x.message(1, 20101, 0)));
        calls.add(refused("message(1, 1, 4)", x -> x.message(1, 1, 4)));
        calls.add(refused("message(1, 1, -1)", x -> x.message(1, 1, -1)));
        calls.add(refused("message(11, 1, 0)", x -> x.message(11, 1, 0)));
        calls.add(isFalse("clock(0, -61, 0)", x -> told(x.clock(0, -61, 0))));
        calls.add(isFalse("clock(0, 0, 61)", x -> told(x.clock(0, 0, 61))));
        calls.add(isFalse("clock(1, 1, 0)", x -> told(x.clock(1, 1, 0))));
        calls.add(isFalse("clock(6, 0, 0)", x -> told(x.clock(6, 0, 0))));
        calls.add(refused("event(0, 1000)", x -> x.event(0, 1000)));
        calls.add(refused("event(0, -1)", x -> x.event(0, -1)));
        calls.add(refused("event(6, 5)", x -> x.event(6, 5)));
        calls.add(refused("fact(0, 0, 0)", x -> x.fact(0, 0, 0)));
        calls.add(refused("fact(1, 0, 100)", x -> x.fact(1, 0, 100)));
        calls.add(refused("fact(1, 0, -100)", x -> x.fact(1, 0, -100)));
        return calls;
    }

    private static void neverHands(List<Call> calls) {
        for (int wrong : new int[] {MIN, -1001, 0, 255, 1000, 20019, 1256, 256256, MAX}) {
            calls.add(refused("hand(" + wrong + ", ..)", x -> x.hand(wrong, 30050, 10015, 16030, 31060)));
            calls.add(refused("hand(.., " + wrong + ", ..)", x -> x.hand(10020, wrong, 10015, 16030, 31060)));
            calls.add(refused("hand(.., .., " + wrong + ", ..)", x -> x.hand(10020, 30050, wrong, 16030, 31060)));
            calls.add(refused("hand(.., .., .., " + wrong + ", ..)", x -> x.hand(10020, 30050, 10015, wrong, 31060)));
            calls.add(refused("hand(.., .., .., .., " + wrong + ")", x -> x.hand(10020, 30050, 10015, 16030, wrong)));
        }
    }

    // What is refused as nothing is there yet

    private static List<Call> withNothing() {
        List<Call> calls = new ArrayList<>();
        calls.add(isFalse("end(1)", x -> told(x.end(1))));
        calls.add(isFalse("cut(1)", x -> told(x.cut(1))));
        calls.add(refused("code()", x -> x.code()));
        calls.add(refused("undo()", x -> x.undo()));
        calls.add(refused("message(1, 1, 0)", x -> x.message(1, 1, 0)));
        calls.add(refused("fact(1, 0, 0)", x -> x.fact(1, 0, 0)));
        calls.add(refused("key(0, 0, 0)", x -> x.key(0, 0, 0)));
        calls.add(refused("readings(0, 0)", x -> x.readings(0, 0)));
        calls.add(refused("nearest(0, 0, -1)", x -> x.nearest(0, 0, NONE)));
        calls.add(refused("suspects(-1)", x -> x.suspects(NONE)));
        calls.add(refused("likelier(0, 0, 0)", x -> x.likelier(0, 0, 0)));
        calls.add(refused("sent(0, 0, 0)", x -> x.sent(0, 0, 0)));
        calls.add(refused("tap(0, -1)", x -> x.tap(0, NONE)));
        calls.add(refused("first(0, 0)", x -> x.first(0, 0)));
        calls.add(new Call("apart(0, 0, 0)", x -> x.apart(0, 0, 0), KeyFists.VOID));
        return calls;
    }

    // What is refused by what is there

    private static List<Call> withSome() {
        List<Call> calls = new ArrayList<>();
        calls.add(isFalse("end(4)", x -> told(x.end(4))));
        calls.add(isFalse("cut(6)", x -> told(x.cut(6))));
        calls.add(refused("code() of a SAYING", x -> x.code()));
        calls.add(refused("message(20, 1, 0)", x -> x.message(20, 1, 0)));
        calls.add(refused("message(4, 1, 0)", x -> x.message(4, 1, 0)));
        calls.add(refused("fact(4, 0, 0)", x -> x.fact(4, 0, 0)));
        calls.add(refused("fact(0, 4, 0)", x -> x.fact(0, 4, 0)));
        calls.add(refused("key(3, 0, 0)", x -> x.key(3, 0, 0)));
        calls.add(refused("key(0, 3, 0)", x -> x.key(0, 3, 0)));
        calls.add(refused("readings(3, 0)", x -> x.readings(3, 0)));
        calls.add(refused("readings(0, 3)", x -> x.readings(0, 3)));
        calls.add(refused("likelier(0, 3, 0)", x -> x.likelier(0, 3, 0)));
        calls.add(refused("sent(3, 0, 0)", x -> x.sent(3, 0, 0)));
        calls.add(refused("sent(0, 3, 0)", x -> x.sent(0, 3, 0)));
        calls.add(refused("sent(0, 2, 5001)", x -> x.sent(0, 2, 5001)));
        calls.add(refused("tap(3, -1)", x -> x.tap(3, NONE)));
        calls.add(refused("mended(17576, 3, -1)", x -> x.mended(17576, 3, NONE)));
        calls.add(refused("mended(0, 4, -1)", x -> x.mended(0, 4, NONE)));
        calls.add(new Call("apart(0, 1, 2)", x -> x.apart(0, 1, 2), KeyFists.VOID));
        return calls;
    }

    // What is refused as all places are taken

    private static List<Call> whereAllPlacesAreTaken() {
        List<Call> calls = new ArrayList<>();
        calls.add(refused("feed(0, 0, 0, 0, 0)", x -> x.feed(0, 0, 0, 0, 0)));
        calls.add(refused("feed(1, 2, 3, 4, 5)", x -> x.feed(1, 2, 3, 4, 5)));
        calls.add(refused("code() of 500 bytes", x -> x.code()));
        calls.add(refused("the ninth HAND", x -> x.hand(1001, 1001, 1001, 1001, 1001)));
        calls.add(refused("the ninth HAND, another", x -> x.hand(1255, 1255, 1255, 1255, 1255)));
        calls.add(refused("the ninth LINE", x -> x.line(0, 5, 1, 1)));
        calls.add(refused("the 121st length", x -> x.length(7)));
        calls.add(refused("key of 500 letters", x -> x.key(0, 0, 0)));
        calls.add(refused("the 21st MESSAGE", x -> x.message(1, 1, 3)));
        calls.add(refused("the 21st MESSAGE, another", x -> x.message(12, 20060, 2)));
        calls.add(refused("the 13th EVENT", x -> x.event(0, 1)));
        calls.add(refused("the 13th EVENT, another", x -> x.event(5, 999)));
        calls.add(refused("the 13th FACT", x -> x.fact(5, 0, 99)));
        calls.add(refused("the 13th FACT, another", x -> x.fact(0, 3, -1)));
        calls.add(refused("group(20)", x -> x.group(20)));
        calls.add(refused("tape(120)", x -> x.tape(120)));
        calls.add(refused("readings of a TAPE that isn't WHOLE", x -> x.readings(0, 0)));
        calls.add(refused("suspects of a TAPE that isn't WHOLE", x -> x.suspects(NONE)));
        calls.add(refused("likelier of a TAPE that isn't WHOLE", x -> x.likelier(0, 0, 0)));
        return calls;
    }
}
