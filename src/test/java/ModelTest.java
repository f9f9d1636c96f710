import java.nio.charset.StandardCharsets;
import java.util.Random;

/** Runs of calls drawn by fixed seeds, each answer compared with that of the plain model. */
public final class ModelTest {
    private static final int RUNS = 1500;
    private static final int STEPS = 250;
    // An object is used for so many calls; a step takes at most so many of them.
    private static final int CALLS = 512;
    private static final int CALLS_OF_A_STEP = 130;
    private static final int NONE = KeyFists.NONE;

    private final Due due;
    private final Random random;
    private final int run;
    private final KeyFists x = new KeyFists();
    private final PlainModel model = new PlainModel();
    private int wide;
    private int used;

    private ModelTest(Due due, int run) {
        this.due = due;
        this.run = run;
        this.random = new Random(run);
    }

    public static void main(String[] args) {
        Due due = new Due("ModelTest");
        int runs = args.length > 0 ? Integer.parseInt(args[0]) : RUNS;
        for (int run = 0; run < runs && due.wrong() < 20; run++) {
            new ModelTest(due, run).runAll();
        }
        due.end();
    }

    private int of(int bound) {
        return random.nextInt(bound);
    }

    private int from(int least, int greatest) {
        return least + of(greatest - least + 1);
    }

    /** Mostly a number that is right, at times one beside, at times any. */
    private int about(int least, int greatest) {
        int kind = of(40);
        if (kind == 0) {
            return random.nextInt();
        }
        return kind == 1 ? (random.nextBoolean() ? least - 1 : greatest + 1) : from(least, greatest);
    }

    private void say(String call, long got, long want) {
        used++;
        due.is("run " + run + ": " + call, got, want);
    }

    private void runAll() {
        wide = of(3);
        prepare();
        for (int step = 0; step < STEPS && hasRoom() && due.wrong() < 20; step++) {
            switch (run % 5) {
                case 0:
                    textCall();
                    break;
                case 1:
                case 2:
                    if (of(3) == 0) {
                        tapeCall();
                    } else {
                        sayingCall();
                    }
                    break;
                case 3:
                    postCall();
                    break;
                default:
                    clockCall();
                    break;
            }
            if (of(30) == 0 && hasRoom()) {
                anyCall();
            }
        }
        for (int what = -1; what <= 10; what++) {
            say("count(" + what + ")", x.count(what), model.count(what));
        }
        for (int k = 0; k < model.tape.size(); k++) {
            say("tape(" + k + ")", x.tape(k), model.tape(k));
        }
        due.is("run " + run + ": calls of one object", used <= CALLS, true);
    }

    /** Whether one more step can be taken, and all that is asked at the end. */
    private boolean hasRoom() {
        return used + CALLS_OF_A_STEP + 12 + model.tape.size() <= CALLS;
    }

    private void anyCall() {
        switch (of(5)) {
            case 0:
                textCall();
                break;
            case 1:
                tapeCall();
                break;
            case 2:
                sayingCall();
                break;
            case 3:
                postCall();
                break;
            default:
                clockCall();
                break;
        }
    }

    private void prepare() {
        if (run % 5 == 1 || run % 5 == 2) {
            text(someCode(from(1, 12)));
            say("code", x.code(), model.code());
            for (int hand = 0; hand < 3; hand++) {
                hand();
            }
            line();
            line();
        } else if (run % 5 == 3) {
            for (int line = from(1, 8); line > 0; line--) {
                line();
            }
        }
    }

    // Texts

    private void text(String text) {
        byte[] bytes = text.getBytes(StandardCharsets.ISO_8859_1);
        say("end(0)", x.end(0) ? 1 : 0, model.end(0) ? 1 : 0);
        for (int at = 0; at < bytes.length; at += 20) {
            int[] n = Due.numbers(bytes, at);
            say("feed", x.feed(n[0], n[1], n[2], n[3], n[4]), model.feed(n));
        }
        say("end '" + text + "'", x.end(bytes.length) ? 1 : 0, model.end(bytes.length) ? 1 : 0);
    }

    private String gap() {
        return of(12) == 0 ? "\n " : of(30) == 0 ? "" : " ";
    }

    private String someMarks() {
        StringBuilder marks = new StringBuilder();
        for (int size = of(20) == 0 ? from(1, 6) : from(1, 3); size > 0; size--) {
            marks.append(of(80) == 0 ? "0" : of(2) == 0 ? "1" : "2");
        }
        return marks.toString();
    }

    private String someCode(int lineCount) {
        StringBuilder code = new StringBuilder();
        for (int at = 0; at < lineCount; at++) {
            code.append("letter ").append((char) ('a' + at)).append(gap())
                .append(Integer.toString(at + 2, 2).substring(1).replace('1', '2').replace('0', '1')).append(";");
        }
        return code.toString();
    }

    private String wildCode() {
        StringBuilder code = new StringBuilder();
        String[] odd = {"letter", "word", "is", ";", "a", "12", "X", "abc", "\t", "e1", "", " ", "\n"};
        int lineCount = of(25) == 0 ? 24 : from(0, 8);
        for (int at = 0; at < lineCount; at++) {
            if (of(2) == 0 || at < 2) {
                code.append("letter").append(gap()).append((char) ('a' + (of(9) == 0 ? of(26) : at % 26))).append(gap())
                    .append(of(7) == 0 ? someMarks() : Integer.toString(at + 2, 2).substring(1).replace('1', '2')
                        .replace('0', '1')).append(of(9) == 0 ? " ;" : ";");
            } else {
                code.append("word").append(gap());
                for (int size = of(9) == 0 ? from(1, 10) : 2; size > 0; size--) {
                    code.append((char) ('a' + of(9)));
                }
                code.append(gap()).append("is").append(gap());
                for (int size = of(20) == 0 ? from(2, 4) : 3; size > 0; size--) {
                    code.append((char) ('a' + of(of(9) == 0 ? 9 : 2)));
                }
                code.append(";");
            }
            if (of(25) == 0) {
                code.append(odd[of(odd.length)]);
            }
            code.append(of(3) == 0 ? gap() : "");
        }
        String text = code.length() > 470 ? code.substring(0, 470) : code.toString();
        return of(9) == 0 ? text.substring(0, of(text.length() + 1)) : text;
    }

    private String bookOfWords() {
        StringBuilder code = new StringBuilder("letter e 1;letter t 2;letter a 12;");
        for (int word = 0; word < from(18, 22); word++) {
            code.append("word ").append((char) ('a' + word)).append(" is ").append("eta".charAt(word % 3))
                .append("eta".charAt(word / 3 % 3)).append("eta".charAt(word / 9)).append(';');
        }
        return code.toString();
    }

    private void textCall() {
        int k;
        switch (of(9)) {
            case 0:
            case 1:
            case 2:
                text(of(15) == 0 ? bookOfWords() : wildCode());
                say("fault", x.fault(), model.fault());
                break;
            case 3:
                say("code", x.code(), model.code());
                break;
            case 4:
                k = about(0, model.text.length());
                say("end(" + k + ")", x.end(k) ? 1 : 0, model.end(k) ? 1 : 0);
                say("fault", x.fault(), model.fault());
                break;
            case 5:
                k = about(0, 25);
                say("marks(" + k + ")", x.marks(k), model.marks(k));
                break;
            case 6:
                k = about(0, Math.max(0, model.groups.size() - 1));
                say("group(" + k + ")", x.group(k), model.group(k));
                break;
            case 7:
                int group = of(2) == 0 ? of(2) * 676 + of(2) * 26 + of(2) : about(0, 17575);
                int off = about(0, 3);
                k = about(-1, 5);
                say("mended(" + group + ", " + off + ", " + k + ")", x.mended(group, off, k), model.mended(group, off, k));
                break;
            default:
                int[] n = {random.nextInt(), 0x6C657474, 0x65722065, 0x20313B20, 0x20202020};
                say("feed", x.feed(n[0], n[1], n[2], n[3], n[4]), model.feed(n));
                say("fault", x.fault(), model.fault());
                break;
        }
    }

    // HANDS, LINES, TAPES

    private int span(int least, int greatest) {
        int low = from(least, greatest);
        return of(60) == 0 ? about(0, 300000) : low * 1000 + from(low, Math.min(255, low + from(0, greatest)));
    }

    private void hand() {
        int[] spans = wide == 0
            ? new int[] {span(1, 12), span(8, 20), span(1, 12), span(8, 20), span(10, 30)}
            : wide == 1 ? new int[] {span(1, 9), span(1, 9), span(1, 9), span(1, 9), span(1, 9)}
            : new int[] {span(1, 3), span(2, 4), span(1, 3), span(2, 4), span(3, 4)};
        say("hand", x.hand(spans[0], spans[1], spans[2], spans[3], spans[4]), model.hand(spans));
    }

    private void line() {
        int from = about(0, 5);
        int to = about(0, 5);
        int bite = of(2) == 0 ? 0 : of(9) == 0 ? about(0, 99) : of(6);
        int leak = of(2) == 0 ? 0 : of(9) == 0 ? about(0, 20) : of(2);
        say("line(" + from + ", " + to + ", " + bite + ", " + leak + ")", x.line(from, to, bite, leak),
            model.line(from, to, bite, leak));
    }

    private void tapeCall() {
        int k;
        switch (of(8)) {
            case 0:
                hand();
                break;
            case 1:
                line();
                break;
            case 2:
                k = about(0, 9);
                say("rain(" + k + ")", x.rain(k) ? 1 : 0, model.rain(k) ? 1 : 0);
                break;
            case 3:
                k = about(0, 7);
                say("bite(" + k + ")", x.bite(k), model.bite(k));
                break;
            case 4:
                k = of(3) == 0 ? about(0, 120) : about(0, model.tape.size());
                say("cut(" + k + ")", x.cut(k) ? 1 : 0, model.cut(k) ? 1 : 0);
                break;
            case 5:
                k = about(0, 119);
                say("tape(" + k + ")", x.tape(k), model.tape(k));
                break;
            default:
                for (int times = of(9) == 0 ? 60 : from(1, 4); times > 0; times--) {
                    k = of(9) == 0 ? about(1, 999) : from(1, wide == 0 ? 30 : wide == 1 ? 12 : 5);
                    say("length(" + k + ")", x.length(k), model.length(k));
                }
                break;
        }
    }

    private String someSaying() {
        StringBuilder text = new StringBuilder();
        int size = of(8) == 0 ? from(5, 60) : from(1, 5);
        for (int at = 0; at < size; at++) {
            text.append((char) ('a' + of(Math.max(1, model.marks.size()))));
            if (of(4) == 0 && at < size - 1) {
                text.append(' ');
            }
        }
        if (of(12) == 0) {
            text.insert(of(text.length() + 1), " z;  \nA".charAt(of(7)));
        }
        return of(40) == 0 ? "" : text.toString();
    }

    /** A text that the NEAREST reading of the TAPE tells, if there is one. */
    private void sayNearest() {
        int hand = of(Math.max(1, model.hands.size()));
        int line = of(Math.max(1, model.lines.size()));
        StringBuilder text = new StringBuilder();
        int size = model.nearest(hand, line, NONE);
        for (int k = 0; k < size; k++) {
            text.append((char) model.nearest(hand, line, k));
        }
        if (text.length() > 0) {
            text(text.toString());
        }
    }

    private void sayingCall() {
        int hand = about(0, Math.max(0, model.hands.size() - 1));
        int line = about(0, Math.max(0, model.lines.size() - 1));
        if (of(2) == 0 && model.suspects(0) != NONE) {
            hand = model.suspects(0) / 10;
            line = model.suspects(0) % 10;
        }
        String couple = "(" + hand + ", " + line + ", ";
        int k;
        switch (of(9)) {
            case 0:
                text(someSaying());
                break;
            case 1:
            case 2:
                k = about(0, 1000000);
                say("key" + couple + k + ")", x.key(hand, line, k), model.key(hand, line, k));
                break;
            case 3:
            case 4:
                say("readings" + couple + ")", x.readings(hand, line), model.readings(hand, line));
                break;
            case 5:
                int size = Math.max(2, model.nearest(hand, line, NONE));
                for (k = -4; k <= size; k++) {
                    say("nearest" + couple + k + ")", x.nearest(hand, line, k), model.nearest(hand, line, k));
                }
                break;
            case 6:
                sayNearest();
                break;
            case 7:
                k = about(-1, 3);
                say("suspects(" + k + ")", x.suspects(k), model.suspects(k));
                break;
            default:
                int other = about(0, Math.max(0, model.hands.size() - 1));
                int couples = model.suspects(NONE);
                if (couples > 1 && of(4) != 0) {
                    hand = model.suspects(of(couples)) / 10;
                    int last = model.suspects(of(couples));
                    other = last / 10;
                    line = last % 10;
                }
                say("likelier(" + hand + ", " + other + ", " + line + ")", x.likelier(hand, other, line),
                    model.likelier(hand, other, line));
                break;
        }
    }

    // MESSAGES

    private void postCall() {
        int k;
        int a;
        int b;
        switch (of(14)) {
            case 0:
                if (of(3) == 0) {
                    line();
                }
                break;
            case 1:
            case 2:
            case 3:
                a = of(9) == 0 ? about(0, 55) : of(6) * 10 + of(6);
                b = of(9) == 0 ? about(0, 20060) : (of(3) == 0 ? from(0, 200) : of(12)) * 100 + from(1, of(3) == 0 ? 60 : 9);
                k = about(0, 3);
                say("message(" + a + ", " + b + ", " + k + ")", x.message(a, b, k), model.message(a, b, k));
                break;
            case 4:
            case 5:
                a = about(0, 5);
                b = about(0, 5);
                k = about(-1, 5);
                say("route(" + a + ", " + b + ", " + k + ")", x.route(a, b, k), model.route(a, b, k));
                break;
            case 6:
                a = about(0, Math.max(0, model.lines.size() - 1));
                k = about(-1, 9);
                say("tap(" + a + ", " + k + ")", x.tap(a, k), model.tap(a, k));
                break;
            case 7:
                a = about(0, Math.max(0, model.count(5) - 1));
                b = about(0, 2);
                k = of(4) == 0 ? about(0, 5000) : about(0, 60);
                say("sent(" + a + ", " + b + ", " + k + ")", x.sent(a, b, k), model.sent(a, b, k));
                break;
            default:
                break;
        }
    }

    // CLOCKS

    private void clockCall() {
        int k;
        int a;
        int b;
        switch (of(6)) {
            case 0:
                a = about(0, 5);
                b = of(20) == 0 ? about(-60, 60) : from(-9, 4);
                k = of(20) == 0 ? about(-60, 60) : b + of(9);
                say("clock(" + a + ", " + b + ", " + k + ")", x.clock(a, b, k) ? 1 : 0, model.clock(a, b, k) ? 1 : 0);
                break;
            case 1:
                a = about(0, 5);
                b = of(9) == 0 ? about(0, 999) : from(100, 108);
                say("event(" + a + ", " + b + ")", x.event(a, b), model.event(a, b));
                break;
            case 2:
                a = about(0, Math.max(0, model.count(6) - 1));
                b = about(0, Math.max(0, model.count(6) - 1));
                k = of(9) == 0 ? about(-99, 99) : from(-12, 2);
                say("fact(" + a + ", " + b + ", " + k + ")", x.fact(a, b, k), model.fact(a, b, k));
                break;
            case 3:
                for (int times = of(3) == 0 ? of(13) : of(2); times > 0; times--) {
                    say("undo()", x.undo(), model.undo());
                }
                break;
            case 4:
                a = about(0, Math.max(0, model.count(6) - 1));
                b = about(0, Math.max(0, model.count(6) - 1));
                k = about(0, 1);
                say("apart(" + a + ", " + b + ", " + k + ")", x.apart(a, b, k), model.apart(a, b, k));
                break;
            default:
                a = about(0, Math.max(0, model.count(6) - 1));
                b = about(0, Math.max(0, model.count(6) - 1));
                say("first(" + a + ", " + b + ")", x.first(a, b), model.first(a, b));
                break;
        }
    }
}
