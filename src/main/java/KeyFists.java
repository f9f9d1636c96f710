/**
 * Dots and dashes with a hand in them: a code in a text, hands that key, lines that bite, tapes and
 * what they can say, messages on their way, and events by clocks that are off.
 */
public final class KeyFists {
    public static final int NONE = -1;
    public static final int VOID = -2147483648;

    private static final int BLANK = 32;
    private static final int LETTERS = 26;
    private static final int STATIONS = 6;

    // The KINDS of lengths; a DOT and a DASH are told in MARKS by 1 and 2.
    private static final int INSIDE = 2;
    private static final int BEHIND_LETTER = 3;
    private static final int BEHIND_WORD = 4;
    private static final int KINDS = 5;

    private static final int ASKS_COST = -2;
    private static final int GREATEST_SEED = 1000000;

    private final Text text;
    private final Code code;
    private final Code draft;
    private final Grammar grammar;
    private final Hands hands;
    private final Lines lines;
    private final Tape tape;
    private final Reader reader;
    private final Saying saying;
    private final Post post;
    private final Clocks clocks;
    private final Product oneProduct;
    private final Product otherProduct;

    public KeyFists() {
        text = new Text();
        code = new Code();
        draft = new Code();
        grammar = new Grammar(text, draft);
        hands = new Hands();
        lines = new Lines();
        tape = new Tape();
        reader = new Reader(code, tape, hands, lines);
        saying = new Saying(text, code);
        post = new Post(lines);
        clocks = new Clocks();
        oneProduct = new Product();
        otherProduct = new Product();
    }

    // The text and its CODE

    public int feed(int a, int b, int c, int d, int e) {
        if (!text.hasRoom()) {
            return NONE;
        }
        text.add(a);
        text.add(b);
        text.add(c);
        text.add(d);
        text.add(e);
        return text.size();
    }

    public boolean end(int n) {
        return text.keep(n);
    }

    public int fault() {
        return grammar.parse();
    }

    public int code() {
        if (grammar.parse() != NONE) {
            return NONE;
        }
        code.become(draft);
        text.keep(0);
        return code.words();
    }

    public int marks(int letter) {
        return code.marksOf(letter);
    }

    public int group(int word) {
        return code.groupOf(word);
    }

    public int mended(int group, int off, int k) {
        if (group < 0 || group >= LETTERS * LETTERS * LETTERS || off < 0 || off > 3) {
            return NONE;
        }
        return code.kthNear(group, off, k);
    }

    // HANDS and LINES

    public int hand(int dot, int dash, int inside, int behind, int words) {
        boolean canBe = Hands.isSpan(dot) && Hands.isSpan(dash) && Hands.isSpan(inside)
            && Hands.isSpan(behind) && Hands.isSpan(words);
        return canBe ? hands.add(dot, dash, inside, behind, words) : NONE;
    }

    public int line(int from, int to, int bite, int leak) {
        boolean canBe = areTwoStations(from, to) && bite >= 0 && bite <= 99 && leak >= 0 && leak <= 20;
        return canBe ? lines.add(from, to, bite, leak) : NONE;
    }

    public boolean rain(int rain) {
        if (rain < 0 || rain > 9) {
            return false;
        }
        lines.setRain(rain);
        return true;
    }

    public int bite(int line) {
        return lines.has(line) ? lines.biteOf(line) : NONE;
    }

    private static boolean isStation(int station) {
        return station >= 0 && station < STATIONS;
    }

    private static boolean areTwoStations(int from, int to) {
        return isStation(from) && isStation(to) && from != to;
    }

    // The TAPE

    public int length(int length) {
        return length < 1 || length > Tape.LONGEST ? NONE : tape.add(length);
    }

    public boolean cut(int n) {
        return tape.keep(n);
    }

    public int tape(int k) {
        return tape.at(k);
    }

    // READINGS

    public int readings(int hand, int line) {
        if (!canRead(hand, line)) {
            return NONE;
        }
        reader.listen(hand, line);
        return reader.countAll();
    }

    public int nearest(int hand, int line, int k) {
        if (!canRead(hand, line)) {
            return NONE;
        }
        reader.listen(hand, line);
        int cost = reader.findNearest();
        if (cost == NONE || k == ASKS_COST) {
            return cost;
        }
        reader.writeNearest();
        return k == NONE ? reader.rowSize() : reader.rowAt(k);
    }

    private boolean canRead(int hand, int line) {
        return hands.has(hand) && lines.has(line) && tape.isWhole();
    }

    // SAYINGS

    public int suspects(int k) {
        if (!tape.isWhole() || !saying.isThere()) {
            return NONE;
        }
        saying.spell();
        int found = 0;
        for (int hand = 0; hand < hands.size(); hand++) {
            for (int line = 0; line < lines.size(); line++) {
                if (tapeSaysIt(hand, line)) {
                    if (found == k) {
                        return hand * 10 + line;
                    }
                    found++;
                }
            }
        }
        return k == NONE ? found : NONE;
    }

    public int likelier(int one, int other, int line) {
        if (!canRead(one, line) || !canRead(other, line) || !saying.isThere()) {
            return NONE;
        }
        saying.spell();
        if (!tapeSaysIt(one, line) || !tapeSaysIt(other, line)) {
            return NONE;
        }
        multiplyChoices(oneProduct, one);
        multiplyChoices(otherProduct, other);
        int order = oneProduct.compareWith(otherProduct);
        if (order == 0) {
            return 0;
        }
        return order < 0 ? 1 : 2;
    }

    private boolean tapeSaysIt(int hand, int line) {
        if (saying.size() != tape.size()) {
            return false;
        }
        reader.listen(hand, line);
        for (int place = 0; place < saying.size(); place++) {
            if (reader.costOf(place, saying.kindAt(place)) == NONE) {
                return false;
            }
        }
        return true;
    }

    private void multiplyChoices(Product product, int hand) {
        product.becomeOne();
        for (int place = 0; place < saying.size(); place++) {
            product.multiply(hands.choicesOf(hand, saying.kindAt(place)));
        }
    }

    public int key(int hand, int line, int seed) {
        if (!hands.has(hand) || !lines.has(line) || seed < 0 || seed > GREATEST_SEED) {
            return NONE;
        }
        if (!saying.isThere() || saying.spell() == NONE) {
            return NONE;
        }
        saying.draw(hands, hand, seed);
        saying.sendThrough(lines.biteOf(line), tape);
        return tape.size();
    }

    // MESSAGES

    public int message(int stations, int minutes, int priority) {
        if (stations < 0 || minutes < 0 || priority < 0 || priority > 3) {
            return NONE;
        }
        int from = stations / 10;
        int to = stations % 10;
        int minute = minutes / 100;
        int words = minutes % 100;
        if (!areTwoStations(from, to) || minute > 200 || words < 1 || words > 60) {
            return NONE;
        }
        return lines.findRoute(from, to) == NONE ? NONE : post.add(from, to, minute, words, priority);
    }

    public int route(int from, int to, int k) {
        if (!areTwoStations(from, to)) {
            return NONE;
        }
        int size = lines.findRoute(from, to);
        if (k == NONE || size == NONE) {
            return size;
        }
        return lines.routeAt(k);
    }

    public int sent(int message, int what, int at) {
        if (!post.has(message)) {
            return NONE;
        }
        post.runAll();
        switch (what) {
            case 0:
                return post.arrivalOf(message);
            case 1:
                return post.waitOf(message);
            case 2:
                return at < 0 || at > 5000 ? NONE : post.whereIs(message, at);
            default:
                return NONE;
        }
    }

    public int tap(int line, int k) {
        if (!lines.has(line)) {
            return NONE;
        }
        post.runAll();
        return post.kthHeard(line, k);
    }

    // CLOCKS

    public boolean clock(int station, int least, int greatest) {
        if (!isStation(station) || least < -60 || greatest > 60 || least > greatest) {
            return false;
        }
        clocks.setClock(station, least, greatest);
        return true;
    }

    public int event(int station, int minute) {
        return isStation(station) && minute >= 0 && minute <= 999 ? clocks.addEvent(station, minute) : NONE;
    }

    public int fact(int event, int behind, int n) {
        boolean canBe = clocks.hasEvent(event) && clocks.hasEvent(behind) && event != behind && n >= -99 && n <= 99;
        return canBe ? clocks.addFact(event, behind, n) : NONE;
    }

    public int undo() {
        return clocks.dropFact();
    }

    public int apart(int one, int other, int what) {
        if (!clocks.hasEvent(one) || !clocks.hasEvent(other) || !clocks.canBe()) {
            return VOID;
        }
        if (what == 0) {
            return clocks.leastBehind(one, other);
        }
        return what == 1 ? clocks.greatestBehind(one, other) : VOID;
    }

    public int first(int one, int other) {
        if (!clocks.hasEvent(one) || !clocks.hasEvent(other) || !clocks.canBe()) {
            return NONE;
        }
        int least = clocks.leastBehind(one, other);
        int greatest = clocks.greatestBehind(one, other);
        if (least > 0) {
            return 1;
        }
        if (greatest < 0) {
            return 2;
        }
        return least == 0 && greatest == 0 ? 0 : NONE;
    }

    public int count(int what) {
        switch (what) {
            case 0:
                return code.letters();
            case 1:
                return code.words();
            case 2:
                return hands.size();
            case 3:
                return lines.size();
            case 4:
                return tape.size();
            case 5:
                return post.size();
            case 6:
                return clocks.events();
            case 7:
                return clocks.facts();
            case 8:
                return text.size();
            case 9:
                return lines.rainNow();
            default:
                return NONE;
        }
    }

    /** The bytes that are fed. */
    private static final class Text {
        private static final int MOST = 500;
        private static final int FEED = 20;

        private final int[] bytes = new int[MOST];
        private int size;

        int size() {
            return size;
        }

        boolean hasRoom() {
            return size + FEED <= MOST;
        }

        void add(int number) {
            for (int shift = 24; shift >= 0 && size < MOST; shift -= 8) {
                bytes[size] = (number >>> shift) & 255;
                size++;
            }
        }

        boolean keep(int n) {
            if (n < 0 || n > size) {
                return false;
            }
            size = n;
            return true;
        }

        int at(int place) {
            return place >= 0 && place < size ? bytes[place] : NONE;
        }

        boolean isLetter(int place) {
            int sign = at(place);
            return sign >= 'a' && sign <= 'z';
        }
    }

    /** An alphabet and a book of groups. */
    private static final class Code {
        private static final int MOST_WORDS = 20;
        private static final int MOST_MARKS = 5;

        private final int[] marks = new int[LETTERS];
        private final int[] sizes = new int[LETTERS];
        // Of each letter the KINDS of its MARKS, the last one first.
        private final int[] kinds = new int[LETTERS * MOST_MARKS];
        private final int[] groups = new int[MOST_WORDS];
        private int letters;
        private int words;

        void empty() {
            for (int letter = 0; letter < LETTERS; letter++) {
                marks[letter] = 0;
                sizes[letter] = 0;
            }
            letters = 0;
            words = 0;
        }

        void become(Code other) {
            for (int letter = 0; letter < LETTERS; letter++) {
                marks[letter] = other.marks[letter];
                sizes[letter] = other.sizes[letter];
            }
            for (int place = 0; place < LETTERS * MOST_MARKS; place++) {
                kinds[place] = other.kinds[place];
            }
            for (int word = 0; word < MOST_WORDS; word++) {
                groups[word] = other.groups[word];
            }
            letters = other.letters;
            words = other.words;
        }

        int letters() {
            return letters;
        }

        int words() {
            return words;
        }

        boolean hasRoomForWord() {
            return words < MOST_WORDS;
        }

        boolean hasLetter(int letter) {
            return letter >= 0 && letter < LETTERS && sizes[letter] > 0;
        }

        boolean hasMarks(int number) {
            for (int letter = 0; letter < LETTERS; letter++) {
                if (sizes[letter] > 0 && marks[letter] == number) {
                    return true;
                }
            }
            return false;
        }

        boolean hasGroup(int number) {
            for (int word = 0; word < words; word++) {
                if (groups[word] == number) {
                    return true;
                }
            }
            return false;
        }

        void addLetter(int letter, int number) {
            if (letter < 0 || letter >= LETTERS || hasLetter(letter)) {
                return;
            }
            marks[letter] = number;
            int size = 0;
            int rest = number;
            while (size < MOST_MARKS && rest > 0) {
                kinds[letter * MOST_MARKS + size] = rest % 10 - 1;
                rest = rest / 10;
                size++;
            }
            sizes[letter] = size;
            letters++;
        }

        void addGroup(int number) {
            if (words < MOST_WORDS) {
                groups[words] = number;
                words++;
            }
        }

        int marksOf(int letter) {
            return hasLetter(letter) ? marks[letter] : NONE;
        }

        int sizeOf(int letter) {
            return letter >= 0 && letter < LETTERS ? sizes[letter] : 0;
        }

        int kindOf(int letter, int place) {
            int size = sizeOf(letter);
            return place >= 0 && place < size ? kinds[letter * MOST_MARKS + size - 1 - place] : NONE;
        }

        int groupOf(int word) {
            return word >= 0 && word < words ? groups[word] : NONE;
        }

        int kthNear(int group, int off, int k) {
            int found = 0;
            for (int word = 0; word < words; word++) {
                if (unlikeLetters(groups[word], group) <= off) {
                    if (found == k) {
                        return word;
                    }
                    found++;
                }
            }
            return k == NONE ? found : NONE;
        }

        private static int unlikeLetters(int one, int other) {
            int unlike = 0;
            int oneRest = one;
            int otherRest = other;
            for (int place = 0; place < 3; place++) {
                if (oneRest % LETTERS != otherRest % LETTERS) {
                    unlike++;
                }
                oneRest = oneRest / LETTERS;
                otherRest = otherRest / LETTERS;
            }
            return unlike;
        }
    }

    /** Reads a text as a CODE, a TOKEN at a time. */
    private static final class Grammar {
        private static final int NO_MORE = 0;
        private static final int WORD = 1;
        private static final int NUMBER = 2;
        private static final int SEMICOLON = 3;
        private static final int NO_TOKEN = 4;
        private static final int LINE_END = 10;

        private final Text text;
        private final Code code;
        private final int[] nameStarts = new int[Code.MOST_WORDS];
        private final int[] nameSizes = new int[Code.MOST_WORDS];
        private int kind;
        // Where the TOKEN begins: at the end of the text its length, which is the FAULT there.
        private int start;
        private int behind;

        Grammar(Text text, Code code) {
            this.text = text;
            this.code = code;
        }

        /** The FAULT of the text; without one the code holds what it tells. */
        int parse() {
            code.empty();
            behind = 0;
            step();
            if (kind == NO_MORE) {
                return start;
            }
            for (int round = 0; round < Text.MOST && kind != NO_MORE; round++) {
                if (!parseLine()) {
                    return start;
                }
            }
            return NONE;
        }

        /** False where the TOKEN can't stand there. */
        private boolean parseLine() {
            if (isWord("letter")) {
                return parseLetter();
            }
            return isWord("word") && code.hasRoomForWord() && parseWord();
        }

        private boolean parseLetter() {
            step();
            int letter = text.at(start) - 'a';
            if (kind != WORD || tokenSize() != 1 || code.hasLetter(letter)) {
                return false;
            }
            step();
            int number = marksHere();
            if (number == NONE || code.hasMarks(number)) {
                return false;
            }
            step();
            if (kind != SEMICOLON) {
                return false;
            }
            code.addLetter(letter, number);
            step();
            return true;
        }

        private boolean parseWord() {
            step();
            if (!isNewName(code.words())) {
                return false;
            }
            noteName(code.words());
            step();
            if (!isWord("is")) {
                return false;
            }
            step();
            int number = groupHere();
            if (number == NONE || code.hasGroup(number)) {
                return false;
            }
            step();
            if (kind != SEMICOLON) {
                return false;
            }
            code.addGroup(number);
            step();
            return true;
        }

        private void step() {
            int at = behind;
            while (at < text.size() && (text.at(at) == BLANK || text.at(at) == LINE_END)) {
                at++;
            }
            start = at;
            kind = kindAt(at);
            if (kind == NO_MORE) {
                behind = at;
                return;
            }
            at++;
            if (kind == WORD || kind == NUMBER) {
                while (at < text.size() && kindAt(at) == kind) {
                    at++;
                }
            }
            behind = at;
        }

        private int kindAt(int place) {
            int sign = text.at(place);
            if (sign == NONE) {
                return NO_MORE;
            }
            if (sign >= 'a' && sign <= 'z') {
                return WORD;
            }
            if (sign >= '0' && sign <= '9') {
                return NUMBER;
            }
            return sign == ';' ? SEMICOLON : NO_TOKEN;
        }

        private int tokenSize() {
            return behind - start;
        }

        private boolean isWord(String word) {
            if (kind != WORD || tokenSize() != word.length()) {
                return false;
            }
            for (int place = 0; place < word.length(); place++) {
                if (text.at(start + place) != word.charAt(place)) {
                    return false;
                }
            }
            return true;
        }

        private int marksHere() {
            if (kind != NUMBER || tokenSize() > Code.MOST_MARKS) {
                return NONE;
            }
            int number = 0;
            for (int place = start; place < behind; place++) {
                int digit = text.at(place) - '0';
                if (digit != 1 && digit != 2) {
                    return NONE;
                }
                number = number * 10 + digit;
            }
            return number;
        }

        private int groupHere() {
            if (kind != WORD || tokenSize() != 3) {
                return NONE;
            }
            int number = 0;
            for (int place = start; place < behind; place++) {
                int letter = text.at(place) - 'a';
                if (!code.hasLetter(letter)) {
                    return NONE;
                }
                number = number * LETTERS + letter;
            }
            return number;
        }

        private boolean isNewName(int names) {
            if (kind != WORD || tokenSize() > 8 || isWord("letter") || isWord("word") || isWord("is")) {
                return false;
            }
            for (int name = 0; name < names && name < Code.MOST_WORDS; name++) {
                if (isName(name)) {
                    return false;
                }
            }
            return true;
        }

        private boolean isName(int name) {
            if (name < 0 || name >= Code.MOST_WORDS || nameSizes[name] != tokenSize()) {
                return false;
            }
            for (int place = 0; place < tokenSize(); place++) {
                if (text.at(nameStarts[name] + place) != text.at(start + place)) {
                    return false;
                }
            }
            return true;
        }

        private void noteName(int name) {
            if (name >= 0 && name < Code.MOST_WORDS) {
                nameStarts[name] = start;
                nameSizes[name] = tokenSize();
            }
        }
    }

    /** Who keys, each with lengths of their own. */
    private static final class Hands {
        private static final int MOST = 8;
        private static final int GREATEST = 255;

        // Of each HAND and KIND the least length times 1000 and the greatest.
        private final int[] spans = new int[MOST * KINDS];
        private int size;

        int size() {
            return size;
        }

        boolean has(int hand) {
            return hand >= 0 && hand < size;
        }

        static boolean isSpan(int span) {
            int least = span / 1000;
            int greatest = span % 1000;
            return least >= 1 && least <= greatest && greatest <= GREATEST;
        }

        int add(int dot, int dash, int inside, int behind, int words) {
            if (size >= MOST) {
                return NONE;
            }
            int at = size * KINDS;
            spans[at] = dot;
            spans[at + 1] = dash;
            spans[at + INSIDE] = inside;
            spans[at + BEHIND_LETTER] = behind;
            spans[at + BEHIND_WORD] = words;
            size++;
            return size - 1;
        }

        int leastOf(int hand, int kind) {
            return spanOf(hand, kind) / 1000;
        }

        int greatestOf(int hand, int kind) {
            return spanOf(hand, kind) % 1000;
        }

        int choicesOf(int hand, int kind) {
            return greatestOf(hand, kind) - leastOf(hand, kind) + 1;
        }

        private int spanOf(int hand, int kind) {
            return has(hand) && kind >= 0 && kind < KINDS ? spans[hand * KINDS + kind] : 0;
        }
    }

    /** The LINES between the STATIONS, and the RAIN on them. */
    private static final class Lines {
        private static final int MOST = 8;
        private static final int MOST_HOPS = STATIONS - 1;
        private static final int FAR = 1000;

        private final int[] starts = new int[MOST];
        private final int[] ends = new int[MOST];
        private final int[] bites = new int[MOST];
        private final int[] leaks = new int[MOST];
        private final int[] distances = new int[STATIONS];
        private final int[] found = new int[MOST_HOPS];
        private int foundSize;
        private int size;
        private int rainNow;

        int size() {
            return size;
        }

        int rainNow() {
            return rainNow;
        }

        void setRain(int rain) {
            rainNow = rain;
        }

        boolean has(int line) {
            return line >= 0 && line < size;
        }

        int add(int from, int to, int bite, int leak) {
            if (size >= MOST) {
                return NONE;
            }
            starts[size] = from;
            ends[size] = to;
            bites[size] = bite;
            leaks[size] = leak;
            size++;
            return size - 1;
        }

        int biteOf(int line) {
            return has(line) ? bites[line] + leaks[line] * rainNow : 0;
        }

        int endOf(int line) {
            return has(line) ? ends[line] : NONE;
        }

        int routeAt(int hop) {
            return hop >= 0 && hop < foundSize ? found[hop] : NONE;
        }

        /** How many LINES the ROUTE has, which routeAt tells then; NONE without one. */
        int findRoute(int from, int to) {
            foundSize = 0;
            if (!areTwoStations(from, to)) {
                return NONE;
            }
            measureDistances(to);
            int hops = distances[from];
            if (hops > MOST_HOPS) {
                return NONE;
            }
            int station = from;
            for (int hop = 0; hop < hops; hop++) {
                int line = firstTowards(station);
                if (line == NONE) {
                    return NONE;
                }
                found[hop] = line;
                station = ends[line];
            }
            foundSize = hops;
            return hops;
        }

        private void measureDistances(int to) {
            for (int station = 0; station < STATIONS; station++) {
                distances[station] = station == to ? 0 : FAR;
            }
            for (int round = 0; round < MOST_HOPS; round++) {
                for (int line = 0; line < size; line++) {
                    int through = distances[ends[line]] + 1;
                    distances[starts[line]] = Math.min(distances[starts[line]], through);
                }
            }
        }

        private int firstTowards(int station) {
            for (int line = 0; line < size; line++) {
                if (starts[line] == station && distances[ends[line]] == distances[station] - 1) {
                    return line;
                }
            }
            return NONE;
        }
    }

    /** A row of lengths: a mark, a gap, a mark, and so on. */
    private static final class Tape {
        private static final int MOST = 120;
        private static final int LONGEST = 999;

        private final int[] lengths = new int[MOST];
        private int size;

        int size() {
            return size;
        }

        int add(int length) {
            if (size >= MOST) {
                return NONE;
            }
            lengths[size] = length;
            size++;
            return size;
        }

        boolean keep(int n) {
            if (n < 0 || n > size) {
                return false;
            }
            size = n;
            return true;
        }

        int at(int k) {
            return k >= 0 && k < size ? lengths[k] : NONE;
        }

        boolean isWhole() {
            return size % 2 == 1;
        }
    }

    /** Reads the TAPE as if one HAND had sent it through one LINE, from its last mark to its first. */
    private static final class Reader {
        private static final int MOST_MARKS = Tape.MOST / 2;
        private static final int MOST_READINGS = 1000000000;

        private final Code code;
        private final Tape tape;
        private final Hands hands;
        private final Lines lines;
        private final int[] leasts = new int[KINDS];
        private final int[] greatests = new int[KINDS];
        private int taken;
        private int markCount;
        // Of the rest of the TAPE from each mark on: how many READINGS it has, the COST of its
        // NEAREST, and the first letter of that.
        private final int[] ways = new int[MOST_MARKS + 1];
        private final int[] costs = new int[MOST_MARKS + 1];
        private final int[] firstLetters = new int[MOST_MARKS + 1];
        private final int[] row = new int[Tape.MOST];
        private int rowSize;

        Reader(Code code, Tape tape, Hands hands, Lines lines) {
            this.code = code;
            this.tape = tape;
            this.hands = hands;
            this.lines = lines;
        }

        void listen(int hand, int line) {
            for (int kind = 0; kind < KINDS; kind++) {
                leasts[kind] = hands.leastOf(hand, kind);
                greatests[kind] = hands.greatestOf(hand, kind);
            }
            taken = lines.biteOf(line);
            markCount = Math.min((tape.size() + 1) / 2, MOST_MARKS);
        }

        /** The COST of the length at a place as one of a KIND; NONE if it can't be one. */
        int costOf(int place, int kind) {
            int heard = tape.at(place);
            if (heard == NONE || kind < 0 || kind >= KINDS) {
                return NONE;
            }
            int asSent = place % 2 == 0 ? heard + taken : heard - taken;
            if (asSent < leasts[kind] || asSent > greatests[kind]) {
                return NONE;
            }
            return Math.abs(2 * asSent - leasts[kind] - greatests[kind]);
        }

        int countAll() {
            ways[0] = 0;
            for (int mark = markCount - 1; mark >= 0; mark--) {
                long sum = 0;
                for (int letter = 0; letter < LETTERS; letter++) {
                    if (letterCost(mark, letter) != NONE) {
                        sum += waysBehind(mark + code.sizeOf(letter));
                    }
                }
                ways[mark] = (int) Math.min(sum, (long) MOST_READINGS);
            }
            return ways[0];
        }

        private long waysBehind(int next) {
            if (next >= markCount) {
                return 1;
            }
            int gaps = 0;
            if (costOf(2 * next - 1, BEHIND_LETTER) != NONE) {
                gaps++;
            }
            if (costOf(2 * next - 1, BEHIND_WORD) != NONE) {
                gaps++;
            }
            return (long) gaps * ways[next];
        }

        /** The COST of the NEAREST, which can be written then; NONE without one. */
        int findNearest() {
            costs[0] = NONE;
            for (int mark = markCount - 1; mark >= 0; mark--) {
                costs[mark] = NONE;
                firstLetters[mark] = NONE;
                for (int letter = 0; letter < LETTERS; letter++) {
                    int cost = costFrom(mark, letter);
                    if (cost != NONE && (costs[mark] == NONE || cost < costs[mark])) {
                        costs[mark] = cost;
                        firstLetters[mark] = letter;
                    }
                }
            }
            return costs[0];
        }

        // Rows that are alike so far go on from the same mark, so the best sign at each place makes
        // the best row.
        void writeNearest() {
            rowSize = 0;
            int mark = 0;
            for (int round = 0; round < MOST_MARKS && mark < markCount; round++) {
                int letter = firstLetters[mark];
                if (letter == NONE) {
                    return;
                }
                write('a' + letter);
                mark += code.sizeOf(letter);
                if (mark < markCount && costOf(2 * mark - 1, BEHIND_LETTER) != gapCost(mark)) {
                    write(BLANK);
                }
            }
        }

        private void write(int sign) {
            if (rowSize < Tape.MOST) {
                row[rowSize] = sign;
                rowSize++;
            }
        }

        int rowSize() {
            return rowSize;
        }

        int rowAt(int k) {
            return k >= 0 && k < rowSize ? row[k] : NONE;
        }

        /** The least COST of all from a mark on, where a letter begins there. */
        private int costFrom(int mark, int letter) {
            int cost = letterCost(mark, letter);
            int next = mark + code.sizeOf(letter);
            if (cost == NONE || next >= markCount) {
                return cost;
            }
            int gap = gapCost(next);
            return gap == NONE || costs[next] == NONE ? NONE : cost + gap + costs[next];
        }

        private int letterCost(int mark, int letter) {
            int size = code.sizeOf(letter);
            if (size == 0 || mark + size > markCount) {
                return NONE;
            }
            int sum = 0;
            for (int place = 0; place < 2 * size - 1; place++) {
                int kind = place % 2 == 0 ? code.kindOf(letter, place / 2) : INSIDE;
                int cost = costOf(2 * mark + place, kind);
                if (cost == NONE) {
                    return NONE;
                }
                sum += cost;
            }
            return sum;
        }

        /** The lesser COST of the gap ahead of a mark where a letter begins. */
        private int gapCost(int next) {
            int letterGap = costOf(2 * next - 1, BEHIND_LETTER);
            int wordGap = costOf(2 * next - 1, BEHIND_WORD);
            if (letterGap == NONE || wordGap == NONE) {
                return Math.max(letterGap, wordGap);
            }
            return Math.min(letterGap, wordGap);
        }
    }

    /** The text as a SAYING, and the lengths that it is keyed with. */
    private static final class Saying {
        private final Text text;
        private final Code code;
        private final int[] kinds = new int[Tape.MOST];
        private final int[] drawn = new int[Tape.MOST];
        private int size;

        Saying(Text text, Code code) {
            this.text = text;
            this.code = code;
        }

        /** How many lengths the last text that was spelled has; NONE if it couldn't be. */
        int size() {
            return size;
        }

        int kindAt(int place) {
            return place >= 0 && place < size ? kinds[place] : NONE;
        }

        boolean isThere() {
            boolean afterLetter = false;
            for (int place = 0; place < text.size(); place++) {
                if (text.isLetter(place)) {
                    afterLetter = true;
                } else if (text.at(place) == BLANK && afterLetter) {
                    afterLetter = false;
                } else {
                    return false;
                }
            }
            return afterLetter;
        }

        /** Finds the KINDS of all lengths of a SAYING; NONE if a letter has no MARKS, or it is too long. */
        int spell() {
            size = 0;
            int gap = NONE;
            for (int place = 0; place < text.size(); place++) {
                if (text.at(place) == BLANK) {
                    gap = BEHIND_WORD;
                } else if (spellLetter(text.at(place) - 'a', gap)) {
                    gap = BEHIND_LETTER;
                } else {
                    size = NONE;
                    return NONE;
                }
            }
            return size;
        }

        private boolean spellLetter(int letter, int gapAhead) {
            int marks = code.sizeOf(letter);
            if (marks == 0 || size + 2 * marks > Tape.MOST) {
                return false;
            }
            for (int mark = 0; mark < marks; mark++) {
                int gap = mark == 0 ? gapAhead : INSIDE;
                if (gap != NONE) {
                    addKind(gap);
                }
                addKind(code.kindOf(letter, mark));
            }
            return true;
        }

        private void addKind(int kind) {
            if (size >= 0 && size < Tape.MOST) {
                kinds[size] = kind;
                size++;
            }
        }

        void draw(Hands hands, int hand, int seed) {
            long x = seed;
            for (int place = 0; place < size; place++) {
                x = (x * 1103515245L + 12345L) & 2147483647L;
                int choices = hands.choicesOf(hand, kinds[place]);
                long more = choices > 0 ? x / 256 % choices : 0;
                drawn[place] = hands.leastOf(hand, kinds[place]) + (int) more;
            }
        }

        void sendThrough(int bite, Tape tape) {
            tape.keep(0);
            int gap = 0;
            for (int place = 0; place < size; place++) {
                int length = drawn[place];
                if (place % 2 == 1 || length <= bite) {
                    gap += length;
                } else {
                    if (tape.size() > 0) {
                        tape.add(Math.min(gap + bite, Tape.LONGEST));
                    }
                    tape.add(length - bite);
                    gap = 0;
                }
            }
        }
    }

    /** A product of numbers up to 255, too great for a long. */
    private static final class Product {
        private static final int LIMB_BITS = 20;
        private static final int LIMB_MASK = (1 << LIMB_BITS) - 1;
        // Each of the lengths of a TAPE brings 8 bits at most.
        private static final int LIMBS = Tape.MOST * 8 / LIMB_BITS + 1;

        private final int[] limbs = new int[LIMBS];

        void becomeOne() {
            for (int limb = 0; limb < LIMBS; limb++) {
                limbs[limb] = limb == 0 ? 1 : 0;
            }
        }

        void multiply(int factor) {
            int carry = 0;
            for (int limb = 0; limb < LIMBS; limb++) {
                int value = limbs[limb] * factor + carry;
                limbs[limb] = value & LIMB_MASK;
                carry = value >>> LIMB_BITS;
            }
        }

        int compareWith(Product other) {
            for (int limb = LIMBS - 1; limb >= 0; limb--) {
                if (limbs[limb] != other.limbs[limb]) {
                    return Integer.compare(limbs[limb], other.limbs[limb]);
                }
            }
            return 0;
        }
    }

    /** The MESSAGES, and their ways through the LINES. */
    private static final class Post {
        private static final int MOST = 20;
        private static final int HOPS = Lines.MOST_HOPS;

        private final Lines lines;
        private final int[] starts = new int[MOST];
        private final int[] ends = new int[MOST];
        private final int[] minutes = new int[MOST];
        private final int[] words = new int[MOST];
        private final int[] priorities = new int[MOST];
        private int size;

        // Of each MESSAGE the LINES of its ROUTE, in which MINUTE each began to send it, how many
        // have begun, and the MINUTE from which it is at the STATION behind the last of these.
        private final int[] routes = new int[MOST * HOPS];
        private final int[] begins = new int[MOST * HOPS];
        private final int[] routeSizes = new int[MOST];
        private final int[] begun = new int[MOST];
        private final int[] thereSince = new int[MOST];
        private final int[] freeFrom = new int[Lines.MOST];

        Post(Lines lines) {
            this.lines = lines;
        }

        int size() {
            return size;
        }

        boolean has(int message) {
            return message >= 0 && message < size;
        }

        int add(int from, int to, int minute, int wordCount, int priority) {
            if (size >= MOST) {
                return NONE;
            }
            starts[size] = from;
            ends[size] = to;
            minutes[size] = minute;
            words[size] = wordCount;
            priorities[size] = priority;
            size++;
            return size - 1;
        }

        /** Sends all MESSAGES to their ends: nothing happens between one begin and the next. */
        void runAll() {
            prepare();
            for (int round = 0; round < MOST * HOPS; round++) {
                int minute = nextBegin();
                if (minute == NONE) {
                    return;
                }
                for (int line = 0; line < lines.size(); line++) {
                    int message = freeFrom[line] <= minute ? chosenFor(line, minute) : NONE;
                    if (message != NONE) {
                        begin(message, line, minute);
                    }
                }
            }
        }

        private void prepare() {
            for (int message = 0; message < size; message++) {
                lines.findRoute(starts[message], ends[message]);
                int hops = 0;
                while (hops < HOPS && lines.routeAt(hops) != NONE) {
                    routes[message * HOPS + hops] = lines.routeAt(hops);
                    hops++;
                }
                routeSizes[message] = hops;
                begun[message] = 0;
                thereSince[message] = minutes[message];
            }
            for (int line = 0; line < Lines.MOST; line++) {
                freeFrom[line] = 0;
            }
        }

        private int nextBegin() {
            int least = NONE;
            for (int message = 0; message < size; message++) {
                int line = nextLine(message);
                if (line != NONE) {
                    int minute = Math.max(thereSince[message], freeFrom[line]);
                    if (least == NONE || minute < least) {
                        least = minute;
                    }
                }
            }
            return least;
        }

        private int nextLine(int message) {
            int hop = begun[message];
            int line = hop < routeSizes[message] && hop < HOPS ? routes[message * HOPS + hop] : NONE;
            return lines.has(line) ? line : NONE;
        }

        private int chosenFor(int line, int minute) {
            int best = NONE;
            for (int message = 0; message < size; message++) {
                if (nextLine(message) == line && thereSince[message] <= minute
                        && (best == NONE || goesAhead(message, best))) {
                    best = message;
                }
            }
            return best;
        }

        /** Whether a MESSAGE is sent ahead of one with a lesser number. */
        private boolean goesAhead(int message, int lesser) {
            if (priorities[message] != priorities[lesser]) {
                return priorities[message] > priorities[lesser];
            }
            return thereSince[message] < thereSince[lesser];
        }

        private void begin(int message, int line, int minute) {
            begins[message * HOPS + begun[message]] = minute;
            begun[message]++;
            thereSince[message] = minute + words[message];
            freeFrom[line] = minute + words[message];
        }

        int arrivalOf(int message) {
            return has(message) ? thereSince[message] : NONE;
        }

        int waitOf(int message) {
            if (!has(message)) {
                return NONE;
            }
            return thereSince[message] - minutes[message] - begun[message] * words[message];
        }

        int whereIs(int message, int minute) {
            if (!has(message) || minute < minutes[message]) {
                return NONE;
            }
            int station = starts[message];
            for (int hop = 0; hop < begun[message] && hop < HOPS; hop++) {
                int line = routes[message * HOPS + hop];
                int begin = begins[message * HOPS + hop];
                if (minute < begin) {
                    return station;
                }
                if (minute < begin + words[message]) {
                    return 10 + line;
                }
                station = lines.endOf(line);
            }
            return station;
        }

        int kthHeard(int line, int k) {
            int heard = 0;
            int last = NONE;
            for (int round = 0; round < MOST; round++) {
                int message = nextHeard(line, last);
                if (message == NONE) {
                    return k == NONE ? heard : NONE;
                }
                if (heard == k) {
                    return message;
                }
                heard++;
                last = beginOn(line, message);
            }
            return k == NONE ? heard : NONE;
        }

        // A LINE begins one MESSAGE in a MINUTE at most, so the MINUTE alone tells what is next.
        private int nextHeard(int line, int after) {
            int best = NONE;
            int bestMinute = NONE;
            for (int message = 0; message < size; message++) {
                int minute = beginOn(line, message);
                if (minute > after && (best == NONE || minute < bestMinute)) {
                    best = message;
                    bestMinute = minute;
                }
            }
            return best;
        }

        private int beginOn(int line, int message) {
            for (int hop = 0; hop < begun[message] && hop < HOPS; hop++) {
                if (routes[message * HOPS + hop] == line) {
                    return begins[message * HOPS + hop];
                }
            }
            return NONE;
        }
    }

    /** EVENTS by CLOCKS that are off, and FACTS about them. */
    private static final class Clocks {
        private static final int MOST = 12;

        private final int[] leasts = new int[STATIONS];
        private final int[] greatests = new int[STATIONS];
        private final int[] stations = new int[MOST];
        private final int[] minutes = new int[MOST];
        private int events;
        private final int[] laters = new int[MOST];
        private final int[] earliers = new int[MOST];
        private final int[] gaps = new int[MOST];
        private int facts;
        // By how much at most the CLOCK of the second STATION is ahead of that of the first one.
        private final int[][] mostAhead = new int[STATIONS][STATIONS];

        int events() {
            return events;
        }

        int facts() {
            return facts;
        }

        boolean hasEvent(int event) {
            return event >= 0 && event < events;
        }

        void setClock(int station, int least, int greatest) {
            if (isStation(station)) {
                leasts[station] = least;
                greatests[station] = greatest;
            }
        }

        int addEvent(int station, int minute) {
            if (events >= MOST) {
                return NONE;
            }
            stations[events] = station;
            minutes[events] = minute;
            events++;
            return events - 1;
        }

        int addFact(int later, int earlier, int n) {
            if (facts >= MOST) {
                return NONE;
            }
            laters[facts] = later;
            earliers[facts] = earlier;
            gaps[facts] = n;
            facts++;
            return facts;
        }

        int dropFact() {
            if (facts == 0) {
                return NONE;
            }
            facts--;
            return facts;
        }

        /** Whether the CLOCKS CAN BE; if so, leastBehind and greatestBehind can be asked. */
        boolean canBe() {
            boundByClocks();
            boundByFacts();
            for (int through = 0; through < STATIONS; through++) {
                tightenThrough(through);
                // A look in each round: what contradicts would grow from round to round.
                if (contradicts()) {
                    return false;
                }
            }
            return true;
        }

        private void boundByClocks() {
            for (int one = 0; one < STATIONS; one++) {
                for (int other = 0; other < STATIONS; other++) {
                    mostAhead[one][other] = one == other ? 0 : greatests[other] - leasts[one];
                }
            }
        }

        private void boundByFacts() {
            for (int fact = 0; fact < facts; fact++) {
                int later = laters[fact];
                int earlier = earliers[fact];
                int most = minutes[later] - minutes[earlier] - gaps[fact];
                int one = stations[earlier];
                int other = stations[later];
                mostAhead[one][other] = Math.min(mostAhead[one][other], most);
            }
        }

        private void tightenThrough(int through) {
            for (int one = 0; one < STATIONS; one++) {
                for (int other = 0; other < STATIONS; other++) {
                    int most = mostAhead[one][through] + mostAhead[through][other];
                    mostAhead[one][other] = Math.min(mostAhead[one][other], most);
                }
            }
        }

        private boolean contradicts() {
            for (int station = 0; station < STATIONS; station++) {
                if (mostAhead[station][station] < 0) {
                    return true;
                }
            }
            return false;
        }

        int leastBehind(int one, int other) {
            if (!hasEvent(one) || !hasEvent(other)) {
                return VOID;
            }
            return minutes[other] - minutes[one] - mostAhead[stations[one]][stations[other]];
        }

        int greatestBehind(int one, int other) {
            if (!hasEvent(one) || !hasEvent(other)) {
                return VOID;
            }
            return minutes[other] - minutes[one] + mostAhead[stations[other]][stations[one]];
        }
    }
}
