import java.math.BigInteger;
import java.util.ArrayList;
import java.util.Collections;
import java.util.Comparator;
import java.util.HashMap;
import java.util.HashSet;
import java.util.List;
import java.util.Map;
import java.util.Set;
import java.util.TreeMap;
import java.util.regex.Matcher;
import java.util.regex.Pattern;

/** The document once more, by other means than the program: what both answer must be alike. */
final class PlainModel {
    static final int NONE = -1;
    static final int VOID = Integer.MIN_VALUE;

    /** One of what can stand at a place of a reading, and what it costs. */
    private record Found(long cost, String row) { }

    private record Message(int from, int to, int minute, int words, int priority) { }

    private static final Comparator<Found> NEARER = Comparator.comparingLong(Found::cost)
        .thenComparing(found -> found.row().replace(' ', '~'));

    String text = "";
    TreeMap<Character, String> marks = new TreeMap<>();
    List<String> groups = new ArrayList<>();
    final List<int[]> hands = new ArrayList<>();
    final List<int[]> lines = new ArrayList<>();
    int rain;
    List<Integer> tape = new ArrayList<>();
    private final List<Message> messages = new ArrayList<>();
    private final int[][] clocks = new int[6][2];
    private final List<int[]> events = new ArrayList<>();
    private final List<int[]> facts = new ArrayList<>();

    // The last text that was parsed.
    private TreeMap<Character, String> parsedMarks;
    private List<String> parsedGroups;

    int feed(int... numbers) {
        if (text.length() > 480) {
            return NONE;
        }
        StringBuilder longer = new StringBuilder(text);
        for (int number : numbers) {
            for (int at = 3; at >= 0; at--) {
                longer.append((char) (number >> 8 * at & 255));
            }
        }
        text = longer.toString();
        return text.length();
    }

    boolean end(int n) {
        if (n < 0 || n > text.length()) {
            return false;
        }
        text = text.substring(0, n);
        return true;
    }

    int fault() {
        parsedMarks = new TreeMap<>();
        parsedGroups = new ArrayList<>();
        Set<String> names = new HashSet<>();
        Matcher matcher = Pattern.compile("[ \n]*([a-z]+|[0-9]+|;|[^ \n])").matcher(text);
        String state = "line";
        char letter = 0;
        int lineCount = 0;
        int at = 0;
        while (matcher.find(at)) {
            String token = matcher.group(1);
            boolean fits;
            switch (state) {
                case "line":
                    fits = token.equals("letter") || token.equals("word") && parsedGroups.size() < 20;
                    state = token.equals("letter") ? "L" : "N";
                    break;
                case "L":
                    fits = token.matches("[a-z]") && !parsedMarks.containsKey(token.charAt(0));
                    letter = token.charAt(0);
                    state = "M";
                    break;
                case "M":
                    fits = token.matches("[12]{1,5}") && !parsedMarks.containsValue(token);
                    parsedMarks.put(letter, token);
                    state = "end";
                    break;
                case "N":
                    fits = token.matches("[a-z]{1,8}") && !token.matches("letter|word|is") && names.add(token);
                    state = "is";
                    break;
                case "is":
                    fits = token.equals("is");
                    state = "G";
                    break;
                case "G":
                    fits = token.matches("[a-z]{3}") && !parsedGroups.contains(token);
                    for (char sign : token.toCharArray()) {
                        fits = fits && parsedMarks.containsKey(sign);
                    }
                    parsedGroups.add(token);
                    state = "end";
                    break;
                default:
                    fits = token.equals(";");
                    state = "line";
                    lineCount++;
                    break;
            }
            if (!fits) {
                return matcher.start(1);
            }
            at = matcher.end();
        }
        return state.equals("line") && lineCount > 0 ? NONE : text.length();
    }

    int code() {
        if (fault() != NONE) {
            return NONE;
        }
        marks = parsedMarks;
        groups = parsedGroups;
        text = "";
        return groups.size();
    }

    int marks(int letter) {
        return letter >= 0 && letter < 26 && marks.containsKey((char) ('a' + letter))
            ? Integer.parseInt(marks.get((char) ('a' + letter))) : NONE;
    }

    int group(int word) {
        return word >= 0 && word < groups.size() ? number(groups.get(word)) : NONE;
    }

    private static int number(String group) {
        int number = 0;
        for (char sign : group.toCharArray()) {
            number = number * 26 + sign - 'a';
        }
        return number;
    }

    int hand(int... spans) {
        for (int span : spans) {
            if (span < 0 || span / 1000 < 1 || span / 1000 > 255 || span % 1000 > 255 || span % 1000 < span / 1000) {
                return NONE;
            }
        }
        if (hands.size() == 8) {
            return NONE;
        }
        hands.add(spans.clone());
        return hands.size() - 1;
    }

    int line(int from, int to, int bite, int leak) {
        if (from < 0 || from > 5 || to < 0 || to > 5 || from == to || bite < 0 || bite > 99 || leak < 0 || leak > 20
                || lines.size() == 8) {
            return NONE;
        }
        lines.add(new int[] {from, to, bite, leak});
        return lines.size() - 1;
    }

    boolean rain(int now) {
        if (now < 0 || now > 9) {
            return false;
        }
        rain = now;
        return true;
    }

    int bite(int line) {
        return in(line, lines) ? lines.get(line)[2] + lines.get(line)[3] * rain : NONE;
    }

    private static boolean in(int k, List<?> list) {
        return k >= 0 && k < list.size();
    }

    private static int kth(int k, List<Integer> list) {
        if (k == NONE) {
            return list.size();
        }
        return in(k, list) ? list.get(k) : NONE;
    }

    int length(int length) {
        if (length < 1 || length > 999 || tape.size() == 120) {
            return NONE;
        }
        tape.add(length);
        return tape.size();
    }

    boolean cut(int n) {
        if (n < 0 || n > tape.size()) {
            return false;
        }
        tape = new ArrayList<>(tape.subList(0, n));
        return true;
    }

    int tape(int k) {
        return in(k, tape) ? tape.get(k) : NONE;
    }

    private boolean whole() {
        return tape.size() % 2 == 1;
    }

    private boolean fits(int hand, int line, int at, int kind) {
        int asSent = tape.get(at) + (at % 2 == 0 ? bite(line) : -bite(line));
        int span = hands.get(hand)[kind];
        return asSent >= span / 1000 && asSent <= span % 1000;
    }

    private int cost(int hand, int line, int at, int kind) {
        int asSent = tape.get(at) + (at % 2 == 0 ? bite(line) : -bite(line));
        int span = hands.get(hand)[kind];
        return Math.abs(asSent - span / 1000 + asSent - span % 1000);
    }

    /** The KINDS of the lengths of a letter, with the gaps between them. */
    private static List<Integer> kinds(String letterMarks) {
        List<Integer> kinds = new ArrayList<>();
        for (char mark : letterMarks.toCharArray()) {
            if (!kinds.isEmpty()) {
                kinds.add(2);
            }
            kinds.add(mark - '1');
        }
        return kinds;
    }

    /** The COST of a letter from a place of the TAPE on; NONE if it can't be there. */
    private int letterCost(int hand, int line, int at, String letterMarks) {
        int cost = 0;
        List<Integer> kinds = kinds(letterMarks);
        if (at + kinds.size() > tape.size()) {
            return NONE;
        }
        for (int i = 0; i < kinds.size(); i++) {
            if (!fits(hand, line, at + i, kinds.get(i))) {
                return NONE;
            }
            cost += cost(hand, line, at + i, kinds.get(i));
        }
        return cost;
    }

    int readings(int hand, int line) {
        if (!in(hand, hands) || !in(line, lines) || !whole()) {
            return NONE;
        }
        BigInteger ways = ways(hand, line, 0, new HashMap<>());
        return ways.min(BigInteger.valueOf(1000000000)).intValue();
    }

    private BigInteger ways(int hand, int line, int at, Map<Integer, BigInteger> known) {
        if (known.containsKey(at)) {
            return known.get(at);
        }
        BigInteger ways = BigInteger.ZERO;
        for (String letterMarks : marks.values()) {
            if (letterCost(hand, line, at, letterMarks) != NONE) {
                int behind = at + 2 * letterMarks.length() - 1;
                if (behind == tape.size()) {
                    ways = ways.add(BigInteger.ONE);
                    continue;
                }
                for (int kind = 3; kind <= 4; kind++) {
                    if (fits(hand, line, behind, kind)) {
                        ways = ways.add(ways(hand, line, behind + 1, known));
                    }
                }
            }
        }
        known.put(at, ways);
        return ways;
    }

    int nearest(int hand, int line, int k) {
        if (!in(hand, hands) || !in(line, lines) || !whole()) {
            return NONE;
        }
        Found best = tape.size() <= 9 ? bestOfAll(hand, line) : best(hand, line, 0, new HashMap<>());
        if (best == null) {
            return NONE;
        }
        if (k == NONE || k == -2) {
            return k == NONE ? best.row().length() : (int) best.cost();
        }
        return k >= 0 && k < best.row().length() ? best.row().charAt(k) : NONE;
    }

    private Found bestOfAll(int hand, int line) {
        List<Found> all = new ArrayList<>();
        collect(hand, line, 0, 0, "", all);
        return all.isEmpty() ? null : Collections.min(all, NEARER);
    }

    private void collect(int hand, int line, int at, int cost, String row, List<Found> all) {
        for (Map.Entry<Character, String> letter : marks.entrySet()) {
            int letterCost = letterCost(hand, line, at, letter.getValue());
            if (letterCost == NONE) {
                continue;
            }
            int behind = at + 2 * letter.getValue().length() - 1;
            if (behind == tape.size()) {
                all.add(new Found(cost + letterCost, row + letter.getKey()));
                continue;
            }
            for (int kind = 3; kind <= 4; kind++) {
                if (fits(hand, line, behind, kind)) {
                    collect(hand, line, behind + 1, cost + letterCost + cost(hand, line, behind, kind),
                        row + letter.getKey() + (kind == 4 ? " " : ""), all);
                }
            }
        }
    }

    private Found best(int hand, int line, int at, Map<Integer, Found> known) {
        if (known.containsKey(at)) {
            return known.get(at);
        }
        List<Found> all = new ArrayList<>();
        for (Map.Entry<Character, String> letter : marks.entrySet()) {
            int letterCost = letterCost(hand, line, at, letter.getValue());
            if (letterCost == NONE) {
                continue;
            }
            int behind = at + 2 * letter.getValue().length() - 1;
            if (behind == tape.size()) {
                all.add(new Found(letterCost, "" + letter.getKey()));
                continue;
            }
            Found rest = best(hand, line, behind + 1, known);
            for (int kind = 3; kind <= 4 && rest != null; kind++) {
                if (fits(hand, line, behind, kind)) {
                    all.add(new Found(letterCost + cost(hand, line, behind, kind) + rest.cost(),
                        letter.getKey() + (kind == 4 ? " " : "") + rest.row()));
                }
            }
        }
        Found best = all.isEmpty() ? null : Collections.min(all, NEARER);
        known.put(at, best);
        return best;
    }

    private boolean saying() {
        return text.matches("[a-z]+( [a-z]+)*");
    }

    /** The KINDS of all lengths of the SAYING; null if a letter has no MARKS. */
    private List<Integer> spelled() {
        List<Integer> kinds = new ArrayList<>();
        for (String word : text.split(" ")) {
            if (!kinds.isEmpty()) {
                kinds.add(4);
            }
            boolean first = true;
            for (char letter : word.toCharArray()) {
                if (!marks.containsKey(letter)) {
                    return null;
                }
                if (!first) {
                    kinds.add(3);
                }
                kinds.addAll(kinds(marks.get(letter)));
                first = false;
            }
        }
        return kinds;
    }

    private boolean says(int hand, int line) {
        List<Integer> kinds = spelled();
        if (kinds == null || kinds.size() != tape.size()) {
            return false;
        }
        for (int at = 0; at < kinds.size(); at++) {
            if (!fits(hand, line, at, kinds.get(at))) {
                return false;
            }
        }
        return true;
    }

    int suspects(int k) {
        if (!whole() || !saying()) {
            return NONE;
        }
        List<Integer> couples = new ArrayList<>();
        for (int hand = 0; hand < hands.size(); hand++) {
            for (int line = 0; line < lines.size(); line++) {
                if (says(hand, line)) {
                    couples.add(10 * hand + line);
                }
            }
        }
        return kth(k, couples);
    }

    int likelier(int one, int other, int line) {
        if (!in(one, hands) || !in(other, hands) || !in(line, lines) || !whole() || !saying() || !says(one, line)
                || !says(other, line)) {
            return NONE;
        }
        int order = product(one).compareTo(product(other));
        return order == 0 ? 0 : order < 0 ? 1 : 2;
    }

    private BigInteger product(int hand) {
        BigInteger product = BigInteger.ONE;
        for (int kind : spelled()) {
            int span = hands.get(hand)[kind];
            product = product.multiply(BigInteger.valueOf(span % 1000 - span / 1000 + 1));
        }
        return product;
    }

    int key(int hand, int line, int seed) {
        if (!in(hand, hands) || !in(line, lines) || seed < 0 || seed > 1000000 || !saying()) {
            return NONE;
        }
        List<Integer> kinds = spelled();
        if (kinds == null || kinds.size() > 120) {
            return NONE;
        }
        BigInteger x = BigInteger.valueOf(seed);
        List<Integer> asSent = new ArrayList<>();
        for (int kind : kinds) {
            x = x.multiply(BigInteger.valueOf(1103515245)).add(BigInteger.valueOf(12345))
                .mod(BigInteger.ONE.shiftLeft(31));
            int span = hands.get(hand)[kind];
            int many = span % 1000 - span / 1000 + 1;
            asSent.add(span / 1000 + x.divide(BigInteger.valueOf(256)).mod(BigInteger.valueOf(many)).intValue());
        }
        tape = through(asSent, bite(line));
        return tape.size();
    }

    /** Takes away one mark after the other that is gone, with a gap at its side or both as one. */
    private static List<Integer> through(List<Integer> asSent, int bite) {
        List<Integer> row = new ArrayList<>(asSent);
        for (int at = 0; at < row.size();) {
            if (row.get(at) > bite) {
                at += 2;
            } else if (at == 0) {
                row.subList(0, Math.min(2, row.size())).clear();
            } else if (at == row.size() - 1) {
                row.subList(at - 1, at + 1).clear();
            } else {
                row.set(at - 1, row.get(at - 1) + row.get(at) + row.get(at + 1));
                row.subList(at, at + 2).clear();
            }
        }
        for (int at = 0; at < row.size(); at++) {
            row.set(at, at % 2 == 0 ? row.get(at) - bite : Math.min(999, row.get(at) + bite));
        }
        return row;
    }

    int mended(int group, int off, int k) {
        if (group < 0 || group > 17575 || off < 0 || off > 3) {
            return NONE;
        }
        List<Integer> near = new ArrayList<>();
        for (String other : groups) {
            int unlike = 0;
            for (int place = 0, unit = 676; place < 3; place++, unit /= 26) {
                unlike += other.charAt(place) - 'a' == group / unit % 26 ? 0 : 1;
            }
            if (unlike <= off) {
                near.add(groups.indexOf(other));
            }
        }
        return kth(k, near);
    }

    int message(int stations, int minutes, int priority) {
        if (stations < 0 || minutes < 0 || priority < 0 || priority > 3 || minutes / 100 > 200 || minutes % 100 < 1
                || minutes % 100 > 60 || messages.size() == 20) {
            return NONE;
        }
        Message message = new Message(stations / 10, stations % 10, minutes / 100, minutes % 100, priority);
        if (routeOf(message.from(), message.to()) == null) {
            return NONE;
        }
        messages.add(message);
        return messages.size() - 1;
    }

    /** The ROUTE: of all ways of the fewest LINES the first one; null if there is none. */
    private List<Integer> routeOf(int from, int to) {
        if (from < 0 || from > 5 || to < 0 || to > 5 || from == to) {
            return null;
        }
        for (int hops = 1; hops <= 5; hops++) {
            List<Integer> way = wayOf(from, to, hops);
            if (way != null) {
                return way;
            }
        }
        return null;
    }

    private List<Integer> wayOf(int from, int to, int hops) {
        if (hops == 0) {
            return from == to ? new ArrayList<>() : null;
        }
        for (int line = 0; line < lines.size(); line++) {
            if (lines.get(line)[0] == from) {
                List<Integer> rest = wayOf(lines.get(line)[1], to, hops - 1);
                if (rest != null) {
                    rest.add(0, line);
                    return rest;
                }
            }
        }
        return null;
    }

    int route(int from, int to, int k) {
        List<Integer> route = routeOf(from, to);
        return route == null ? NONE : kth(k, route);
    }

    /** Of each MINUTE where each MESSAGE is at its end (10 and the LINE on a LINE). */
    private final List<int[]> places = new ArrayList<>();
    private final List<List<Integer>> heard = new ArrayList<>();
    private int[] arrivals;

    private void runMinutes() {
        int many = messages.size();
        places.clear();
        heard.clear();
        arrivals = new int[many];
        int[] place = new int[many];
        int[] hop = new int[many];
        int[] until = new int[many];
        int[] since = new int[many];
        List<List<Integer>> routes = new ArrayList<>();
        for (int m = 0; m < many; m++) {
            place[m] = NONE;
            routes.add(routeOf(messages.get(m).from(), messages.get(m).to()));
        }
        for (int line = 0; line < lines.size(); line++) {
            heard.add(new ArrayList<>());
        }
        for (int minute = 0; minute <= 7000; minute++) {
            for (int m = 0; m < many; m++) {
                if (place[m] >= 10 && until[m] == minute) {
                    place[m] = lines.get(place[m] - 10)[1];
                    since[m] = minute;
                    hop[m]++;
                    arrivals[m] = place[m] == messages.get(m).to() ? minute : NONE;
                }
            }
            for (int m = 0; m < many; m++) {
                if (messages.get(m).minute() == minute) {
                    place[m] = messages.get(m).from();
                    since[m] = minute;
                }
            }
            for (int line = 0; line < lines.size(); line++) {
                List<Integer> waiting = new ArrayList<>();
                boolean free = true;
                for (int m = 0; m < many; m++) {
                    free = free && place[m] != 10 + line;
                    if (place[m] >= 0 && place[m] < 10 && hop[m] < routes.get(m).size() && routes.get(m).get(hop[m]) == line) {
                        waiting.add(m);
                    }
                }
                if (free && !waiting.isEmpty()) {
                    waiting.sort(Comparator.<Integer>comparingInt(m -> -messages.get(m).priority())
                        .thenComparing(m -> since[m]).thenComparing(m -> m));
                    int m = waiting.get(0);
                    place[m] = 10 + line;
                    until[m] = minute + messages.get(m).words();
                    heard.get(line).add(m);
                }
            }
            places.add(place.clone());
        }
    }

    int sent(int message, int what, int at) {
        if (!in(message, messages) || what < 0 || what > 2) {
            return NONE;
        }
        runMinutes();
        if (what == 0) {
            return arrivals[message];
        }
        if (what == 2) {
            return at < 0 || at > 5000 ? NONE : places.get(at)[message];
        }
        int waited = 0;
        for (int minute = messages.get(message).minute(); minute < arrivals[message]; minute++) {
            waited += places.get(minute)[message] < 10 ? 1 : 0;
        }
        return waited;
    }

    int tap(int line, int k) {
        if (!in(line, lines)) {
            return NONE;
        }
        runMinutes();
        return kth(k, heard.get(line));
    }

    boolean clock(int station, int least, int greatest) {
        if (station < 0 || station > 5 || least < -60 || greatest > 60 || least > greatest) {
            return false;
        }
        clocks[station] = new int[] {least, greatest};
        return true;
    }

    int event(int station, int minute) {
        if (station < 0 || station > 5 || minute < 0 || minute > 999 || events.size() == 12) {
            return NONE;
        }
        events.add(new int[] {station, minute});
        return events.size() - 1;
    }

    int fact(int event, int behind, int n) {
        if (!in(event, events) || !in(behind, events) || event == behind || n < -99 || n > 99 || facts.size() == 12) {
            return NONE;
        }
        facts.add(new int[] {event, behind, n});
        return facts.size();
    }

    int undo() {
        if (facts.isEmpty()) {
            return NONE;
        }
        facts.remove(facts.size() - 1);
        return facts.size();
    }

    /** The least and the greatest number by which the CLOCK of each STATION can be ahead if two are as told; null if none can be. */
    private int[][] narrowed(int station, int ahead, int otherStation, int otherAhead) {
        int[][] can = new int[6][];
        for (int s = 0; s < 6; s++) {
            can[s] = clocks[s].clone();
        }
        can[station] = new int[] {Math.max(can[station][0], ahead), Math.min(can[station][1], ahead)};
        can[otherStation] = new int[] {Math.max(can[otherStation][0], otherAhead), Math.min(can[otherStation][1], otherAhead)};
        boolean changed = true;
        while (changed) {
            changed = false;
            for (int[] fact : facts) {
                int[] event = events.get(fact[0]);
                int[] behind = events.get(fact[1]);
                int most = event[1] - behind[1] - fact[2];
                if (event[0] == behind[0]) {
                    if (most < 0) {
                        return null;
                    }
                    continue;
                }
                // ahead of the one less ahead of the other is at most so much
                if (can[event[0]][1] > can[behind[0]][1] + most) {
                    can[event[0]][1] = can[behind[0]][1] + most;
                    changed = true;
                }
                if (can[behind[0]][0] < can[event[0]][0] - most) {
                    can[behind[0]][0] = can[event[0]][0] - most;
                    changed = true;
                }
            }
            for (int[] of : can) {
                if (of[0] > of[1]) {
                    return null;
                }
            }
        }
        // the least ones of all, taken at once, agree with all facts
        for (int[] fact : facts) {
            int[] event = events.get(fact[0]);
            int[] behind = events.get(fact[1]);
            if (event[1] - can[event[0]][0] - (behind[1] - can[behind[0]][0]) < fact[2]) {
                throw new IllegalStateException("the model is wrong");
            }
        }
        return can;
    }

    /** The least and greatest number by which the second can be behind the first, by trial of all; null if the CLOCKS can't be. */
    private int[] range(int one, int other) {
        int oneStation = events.get(one)[0];
        int otherStation = events.get(other)[0];
        int[] range = null;
        for (int ahead = clocks[oneStation][0]; ahead <= clocks[oneStation][1]; ahead++) {
            int from = oneStation == otherStation ? ahead : clocks[otherStation][0];
            int to = oneStation == otherStation ? ahead : clocks[otherStation][1];
            for (int otherAhead = from; otherAhead <= to; otherAhead++) {
                if (narrowed(oneStation, ahead, otherStation, otherAhead) != null) {
                    int behind = events.get(other)[1] - otherAhead - (events.get(one)[1] - ahead);
                    range = range == null ? new int[] {behind, behind}
                        : new int[] {Math.min(range[0], behind), Math.max(range[1], behind)};
                }
            }
        }
        return range;
    }

    int apart(int one, int other, int what) {
        if (!in(one, events) || !in(other, events) || what < 0 || what > 1) {
            return VOID;
        }
        int[] range = range(one, other);
        return range == null ? VOID : range[what];
    }

    int first(int one, int other) {
        if (!in(one, events) || !in(other, events)) {
            return NONE;
        }
        int[] range = range(one, other);
        if (range == null || range[0] <= 0 && range[1] >= 0 && range[0] < range[1]) {
            return NONE;
        }
        return range[0] > 0 ? 1 : range[1] < 0 ? 2 : 0;
    }

    int count(int what) {
        int[] counts = {marks.size(), groups.size(), hands.size(), lines.size(), tape.size(), messages.size(),
            events.size(), facts.size(), text.length(), rain};
        return what >= 0 && what < 10 ? counts[what] : NONE;
    }
}
